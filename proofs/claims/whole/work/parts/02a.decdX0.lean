theorem dX0_init_0 : decode cX0_init 0 = .ok (.aload_n 0, 1) := by decide +kernel
theorem dX0_init_1 : decode cX0_init 1 = .ok (.invokespecial 3, 3) := by decide +kernel
theorem dX0_init_4 : decode cX0_init 4 = .ok (.aload_n 0, 1) := by decide +kernel
theorem dX0_init_5 : decode cX0_init 5 = .ok (.aload_n 1, 1) := by decide +kernel
theorem dX0_init_6 : decode cX0_init 6 = .ok (.putfield 9, 3) := by decide +kernel
theorem dX0_init_9 : decode cX0_init 9 = .ok (.aload_n 0, 1) := by decide +kernel
theorem dX0_init_10 : decode cX0_init 10 = .ok (.aload_n 2, 1) := by decide +kernel
theorem dX0_init_11 : decode cX0_init 11 = .ok (.putfield 15, 3) := by decide +kernel
theorem dX0_init_14 : decode cX0_init 14 = .ok (.return_, 1) := by decide +kernel
theorem dX0_leastOut_0 : decode cX0_leastOut 0 = .ok (.iconst 0, 1) := by decide +kernel
theorem dX0_leastOut_1 : decode cX0_leastOut 1 = .ok (.istore_n 2, 1) := by decide +kernel
theorem dX0_leastOut_2 : decode cX0_leastOut 2 = .ok (.iload_n 2, 1) := by decide +kernel
theorem dX0_leastOut_3 : decode cX0_leastOut 3 = .ok (.iconst 2, 1) := by decide +kernel
theorem dX0_leastOut_4 : decode cX0_leastOut 4 = .ok (.if_icmp .gt 50, 3) := by decide +kernel
theorem dX0_leastOut_7 : decode cX0_leastOut 7 = .ok (.iconst 0, 1) := by decide +kernel
theorem dX0_leastOut_8 : decode cX0_leastOut 8 = .ok (.istore_n 3, 1) := by decide +kernel
theorem dX0_leastOut_9 : decode cX0_leastOut 9 = .ok (.iload_n 3, 1) := by decide +kernel
theorem dX0_leastOut_10 : decode cX0_leastOut 10 = .ok (.sipush 512, 3) := by decide +kernel
theorem dX0_leastOut_13 : decode cX0_leastOut 13 = .ok (.if_icmp .ge 35, 3) := by decide +kernel
theorem dX0_leastOut_16 : decode cX0_leastOut 16 = .ok (.iload_n 3, 1) := by decide +kernel
theorem dX0_leastOut_17 : decode cX0_leastOut 17 = .ok (.iload_n 1, 1) := by decide +kernel
theorem dX0_leastOut_18 : decode cX0_leastOut 18 = .ok (.iload_n 2, 1) := by decide +kernel
theorem dX0_leastOut_19 : decode cX0_leastOut 19 = .ok (.invokestatic 19, 3) := by decide +kernel
theorem dX0_leastOut_22 : decode cX0_leastOut 22 = .ok (.ifCond .eq 20, 3) := by decide +kernel
theorem dX0_leastOut_25 : decode cX0_leastOut 25 = .ok (.aload_n 0, 1) := by decide +kernel
theorem dX0_leastOut_26 : decode cX0_leastOut 26 = .ok (.getfield 15, 3) := by decide +kernel
theorem dX0_leastOut_29 : decode cX0_leastOut 29 = .ok (.iload_n 1, 1) := by decide +kernel
theorem dX0_leastOut_30 : decode cX0_leastOut 30 = .ok (.iload_n 3, 1) := by decide +kernel
theorem dX0_leastOut_31 : decode cX0_leastOut 31 = .ok (.iconst (-1), 1) := by decide +kernel
theorem dX0_leastOut_32 : decode cX0_leastOut 32 = .ok (.ixor, 1) := by decide +kernel
theorem dX0_leastOut_33 : decode cX0_leastOut 33 = .ok (.iand, 1) := by decide +kernel
theorem dX0_leastOut_34 : decode cX0_leastOut 34 = .ok (.invokevirtual 23, 3) := by decide +kernel
theorem dX0_leastOut_37 : decode cX0_leastOut 37 = .ok (.ifCond .ne 5, 3) := by decide +kernel
theorem dX0_leastOut_40 : decode cX0_leastOut 40 = .ok (.iload_n 3, 1) := by decide +kernel
theorem dX0_leastOut_41 : decode cX0_leastOut 41 = .ok (.ireturn, 1) := by decide +kernel
theorem dX0_leastOut_42 : decode cX0_leastOut 42 = .ok (.iinc 3 1, 3) := by decide +kernel
theorem dX0_leastOut_45 : decode cX0_leastOut 45 = .ok (.goto (-36), 3) := by decide +kernel
theorem dX0_leastOut_48 : decode cX0_leastOut 48 = .ok (.iinc 2 1, 3) := by decide +kernel
theorem dX0_leastOut_51 : decode cX0_leastOut 51 = .ok (.goto (-49), 3) := by decide +kernel
theorem dX0_leastOut_54 : decode cX0_leastOut 54 = .ok (.bipush (-9), 2) := by decide +kernel
theorem dX0_leastOut_56 : decode cX0_leastOut 56 = .ok (.ireturn, 1) := by decide +kernel
theorem dX0_isPart_0 : decode cX0_isPart 0 = .ok (.iload_n 0, 1) := by decide +kernel
theorem dX0_isPart_1 : decode cX0_isPart 1 = .ok (.iload_n 1, 1) := by decide +kernel
theorem dX0_isPart_2 : decode cX0_isPart 2 = .ok (.iconst (-1), 1) := by decide +kernel
theorem dX0_isPart_3 : decode cX0_isPart 3 = .ok (.ixor, 1) := by decide +kernel
theorem dX0_isPart_4 : decode cX0_isPart 4 = .ok (.iand, 1) := by decide +kernel
theorem dX0_isPart_5 : decode cX0_isPart 5 = .ok (.ifCond .ne 15, 3) := by decide +kernel
theorem dX0_isPart_8 : decode cX0_isPart 8 = .ok (.iload_n 0, 1) := by decide +kernel
theorem dX0_isPart_9 : decode cX0_isPart 9 = .ok (.invokestatic 29, 3) := by decide +kernel
theorem dX0_isPart_12 : decode cX0_isPart 12 = .ok (.iload_n 2, 1) := by decide +kernel
theorem dX0_isPart_13 : decode cX0_isPart 13 = .ok (.if_icmp .ne 7, 3) := by decide +kernel
theorem dX0_isPart_16 : decode cX0_isPart 16 = .ok (.iconst 1, 1) := by decide +kernel
theorem dX0_isPart_17 : decode cX0_isPart 17 = .ok (.goto 4, 3) := by decide +kernel
theorem dX0_isPart_20 : decode cX0_isPart 20 = .ok (.iconst 0, 1) := by decide +kernel
theorem dX0_isPart_21 : decode cX0_isPart 21 = .ok (.ireturn, 1) := by decide +kernel
theorem dX0_seekFour_0 : decode cX0_seekFour 0 = .ok (.aload_n 0, 1) := by decide +kernel
theorem dX0_seekFour_1 : decode cX0_seekFour 1 = .ok (.bipush (-9), 2) := by decide +kernel
theorem dX0_seekFour_3 : decode cX0_seekFour 3 = .ok (.putfield 34, 3) := by decide +kernel
theorem dX0_seekFour_6 : decode cX0_seekFour 6 = .ok (.aload_n 0, 1) := by decide +kernel
theorem dX0_seekFour_7 : decode cX0_seekFour 7 = .ok (.bipush (-9), 2) := by decide +kernel
theorem dX0_seekFour_9 : decode cX0_seekFour 9 = .ok (.putfield 38, 3) := by decide +kernel
theorem dX0_seekFour_12 : decode cX0_seekFour 12 = .ok (.iconst 0, 1) := by decide +kernel
theorem dX0_seekFour_13 : decode cX0_seekFour 13 = .ok (.istore_n 2, 1) := by decide +kernel
theorem dX0_seekFour_14 : decode cX0_seekFour 14 = .ok (.iload_n 2, 1) := by decide +kernel
theorem dX0_seekFour_15 : decode cX0_seekFour 15 = .ok (.sipush 512, 3) := by decide +kernel
theorem dX0_seekFour_18 : decode cX0_seekFour 18 = .ok (.if_icmp .ge 47, 3) := by decide +kernel
theorem dX0_seekFour_21 : decode cX0_seekFour 21 = .ok (.iload_n 2, 1) := by decide +kernel
theorem dX0_seekFour_22 : decode cX0_seekFour 22 = .ok (.iload_n 1, 1) := by decide +kernel
theorem dX0_seekFour_23 : decode cX0_seekFour 23 = .ok (.iconst 4, 1) := by decide +kernel
theorem dX0_seekFour_24 : decode cX0_seekFour 24 = .ok (.invokestatic 19, 3) := by decide +kernel
theorem dX0_seekFour_27 : decode cX0_seekFour 27 = .ok (.ifCond .eq 32, 3) := by decide +kernel
theorem dX0_seekFour_30 : decode cX0_seekFour 30 = .ok (.aload_n 0, 1) := by decide +kernel
theorem dX0_seekFour_31 : decode cX0_seekFour 31 = .ok (.getfield 15, 3) := by decide +kernel
theorem dX0_seekFour_34 : decode cX0_seekFour 34 = .ok (.iload_n 2, 1) := by decide +kernel
theorem dX0_seekFour_35 : decode cX0_seekFour 35 = .ok (.invokevirtual 41, 3) := by decide +kernel
theorem dX0_seekFour_38 : decode cX0_seekFour 38 = .ok (.aload_n 0, 1) := by decide +kernel
theorem dX0_seekFour_39 : decode cX0_seekFour 39 = .ok (.getfield 15, 3) := by decide +kernel
theorem dX0_seekFour_42 : decode cX0_seekFour 42 = .ok (.getfield 45, 3) := by decide +kernel
theorem dX0_seekFour_45 : decode cX0_seekFour 45 = .ok (.iconst 3, 1) := by decide +kernel
theorem dX0_seekFour_46 : decode cX0_seekFour 46 = .ok (.if_icmp .ne 13, 3) := by decide +kernel
theorem dX0_seekFour_49 : decode cX0_seekFour 49 = .ok (.aload_n 0, 1) := by decide +kernel
theorem dX0_seekFour_50 : decode cX0_seekFour 50 = .ok (.iload_n 2, 1) := by decide +kernel
theorem dX0_seekFour_51 : decode cX0_seekFour 51 = .ok (.aload_n 0, 1) := by decide +kernel
theorem dX0_seekFour_52 : decode cX0_seekFour 52 = .ok (.iload_n 1, 1) := by decide +kernel
theorem dX0_seekFour_53 : decode cX0_seekFour 53 = .ok (.invokevirtual 48, 3) := by decide +kernel
theorem dX0_seekFour_56 : decode cX0_seekFour 56 = .ok (.invokevirtual 51, 3) := by decide +kernel
theorem dX0_seekFour_59 : decode cX0_seekFour 59 = .ok (.iinc 2 1, 3) := by decide +kernel
theorem dX0_seekFour_62 : decode cX0_seekFour 62 = .ok (.goto (-48), 3) := by decide +kernel
theorem dX0_seekFour_65 : decode cX0_seekFour 65 = .ok (.return_, 1) := by decide +kernel
theorem dX0_offerFour_0 : decode cX0_offerFour 0 = .ok (.aload_n 0, 1) := by decide +kernel
theorem dX0_offerFour_1 : decode cX0_offerFour 1 = .ok (.getfield 34, 3) := by decide +kernel
theorem dX0_offerFour_4 : decode cX0_offerFour 4 = .ok (.bipush (-9), 2) := by decide +kernel
theorem dX0_offerFour_6 : decode cX0_offerFour 6 = .ok (.if_icmp .eq 11, 3) := by decide +kernel
theorem dX0_offerFour_9 : decode cX0_offerFour 9 = .ok (.iload_n 2, 1) := by decide +kernel
theorem dX0_offerFour_10 : decode cX0_offerFour 10 = .ok (.aload_n 0, 1) := by decide +kernel
theorem dX0_offerFour_11 : decode cX0_offerFour 11 = .ok (.getfield 38, 3) := by decide +kernel
theorem dX0_offerFour_14 : decode cX0_offerFour 14 = .ok (.if_icmp .ge 13, 3) := by decide +kernel
theorem dX0_offerFour_17 : decode cX0_offerFour 17 = .ok (.aload_n 0, 1) := by decide +kernel
theorem dX0_offerFour_18 : decode cX0_offerFour 18 = .ok (.iload_n 1, 1) := by decide +kernel
theorem dX0_offerFour_19 : decode cX0_offerFour 19 = .ok (.putfield 34, 3) := by decide +kernel
theorem dX0_offerFour_22 : decode cX0_offerFour 22 = .ok (.aload_n 0, 1) := by decide +kernel
theorem dX0_offerFour_23 : decode cX0_offerFour 23 = .ok (.iload_n 2, 1) := by decide +kernel
theorem dX0_offerFour_24 : decode cX0_offerFour 24 = .ok (.putfield 38, 3) := by decide +kernel
theorem dX0_offerFour_27 : decode cX0_offerFour 27 = .ok (.return_, 1) := by decide +kernel
theorem dX0_worstOf_0 : decode cX0_worstOf 0 = .ok (.lconst 0, 1) := by decide +kernel
theorem dX0_worstOf_1 : decode cX0_worstOf 1 = .ok (.lstore_n 2, 1) := by decide +kernel
theorem dX0_worstOf_2 : decode cX0_worstOf 2 = .ok (.iconst 0, 1) := by decide +kernel
theorem dX0_worstOf_3 : decode cX0_worstOf 3 = .ok (.istore 4, 2) := by decide +kernel
theorem dX0_worstOf_5 : decode cX0_worstOf 5 = .ok (.iload 4, 2) := by decide +kernel
theorem dX0_worstOf_7 : decode cX0_worstOf 7 = .ok (.aload_n 0, 1) := by decide +kernel
theorem dX0_worstOf_8 : decode cX0_worstOf 8 = .ok (.getfield 9, 3) := by decide +kernel
theorem dX0_worstOf_11 : decode cX0_worstOf 11 = .ok (.getfield 55, 3) := by decide +kernel
theorem dX0_worstOf_14 : decode cX0_worstOf 14 = .ok (.if_icmp .ge 35, 3) := by decide +kernel
theorem dX0_worstOf_17 : decode cX0_worstOf 17 = .ok (.iload_n 1, 1) := by decide +kernel
theorem dX0_worstOf_18 : decode cX0_worstOf 18 = .ok (.iload 4, 2) := by decide +kernel
theorem dX0_worstOf_20 : decode cX0_worstOf 20 = .ok (.invokestatic 60, 3) := by decide +kernel
theorem dX0_worstOf_23 : decode cX0_worstOf 23 = .ok (.ifCond .eq 20, 3) := by decide +kernel
theorem dX0_worstOf_26 : decode cX0_worstOf 26 = .ok (.lload_n 2, 1) := by decide +kernel
theorem dX0_worstOf_27 : decode cX0_worstOf 27 = .ok (.aload_n 0, 1) := by decide +kernel
theorem dX0_worstOf_28 : decode cX0_worstOf 28 = .ok (.getfield 15, 3) := by decide +kernel
theorem dX0_worstOf_31 : decode cX0_worstOf 31 = .ok (.iload 4, 2) := by decide +kernel
theorem dX0_worstOf_33 : decode cX0_worstOf 33 = .ok (.invokevirtual 64, 3) := by decide +kernel
theorem dX0_worstOf_36 : decode cX0_worstOf 36 = .ok (.invokestatic 68, 3) := by decide +kernel
theorem dX0_worstOf_39 : decode cX0_worstOf 39 = .ok (.invokestatic 74, 3) := by decide +kernel
theorem dX0_worstOf_42 : decode cX0_worstOf 42 = .ok (.lstore_n 2, 1) := by decide +kernel
theorem dX0_worstOf_43 : decode cX0_worstOf 43 = .ok (.iinc 4 1, 3) := by decide +kernel
theorem dX0_worstOf_46 : decode cX0_worstOf 46 = .ok (.goto (-41), 3) := by decide +kernel
theorem dX0_worstOf_49 : decode cX0_worstOf 49 = .ok (.aload_n 0, 1) := by decide +kernel
theorem dX0_worstOf_50 : decode cX0_worstOf 50 = .ok (.getfield 15, 3) := by decide +kernel
theorem dX0_worstOf_53 : decode cX0_worstOf 53 = .ok (.getfield 78, 3) := by decide +kernel
theorem dX0_worstOf_56 : decode cX0_worstOf 56 = .ok (.aload_n 0, 1) := by decide +kernel
theorem dX0_worstOf_57 : decode cX0_worstOf 57 = .ok (.getfield 15, 3) := by decide +kernel
theorem dX0_worstOf_60 : decode cX0_worstOf 60 = .ok (.getfield 78, 3) := by decide +kernel
theorem dX0_worstOf_63 : decode cX0_worstOf 63 = .ok (.lmul, 1) := by decide +kernel
theorem dX0_worstOf_64 : decode cX0_worstOf 64 = .ok (.lstore 4, 2) := by decide +kernel
theorem dX0_worstOf_66 : decode cX0_worstOf 66 = .ok (.lload 4, 2) := by decide +kernel
theorem dX0_worstOf_68 : decode cX0_worstOf 68 = .ok (.lconst 0, 1) := by decide +kernel
theorem dX0_worstOf_69 : decode cX0_worstOf 69 = .ok (.lcmp, 1) := by decide +kernel
theorem dX0_worstOf_70 : decode cX0_worstOf 70 = .ok (.ifCond .ne 7, 3) := by decide +kernel
theorem dX0_worstOf_73 : decode cX0_worstOf 73 = .ok (.iconst 0, 1) := by decide +kernel
theorem dX0_worstOf_74 : decode cX0_worstOf 74 = .ok (.goto 14, 3) := by decide +kernel
theorem dX0_worstOf_77 : decode cX0_worstOf 77 = .ok (.lload_n 2, 1) := by decide +kernel
theorem dX0_worstOf_78 : decode cX0_worstOf 78 = .ok (.lload 4, 2) := by decide +kernel
theorem dX0_worstOf_80 : decode cX0_worstOf 80 = .ok (.ldiv, 1) := by decide +kernel
theorem dX0_worstOf_81 : decode cX0_worstOf 81 = .ok (.ldc2_w 82, 3) := by decide +kernel
theorem dX0_worstOf_84 : decode cX0_worstOf 84 = .ok (.invokestatic 84, 3) := by decide +kernel
theorem dX0_worstOf_87 : decode cX0_worstOf 87 = .ok (.l2i, 1) := by decide +kernel
theorem dX0_worstOf_88 : decode cX0_worstOf 88 = .ok (.ireturn, 1) := by decide +kernel
theorem dX0_seekPlaces_0 : decode cX0_seekPlaces 0 = .ok (.aload_n 0, 1) := by decide +kernel
theorem dX0_seekPlaces_1 : decode cX0_seekPlaces 1 = .ok (.iconst 0, 1) := by decide +kernel
theorem dX0_seekPlaces_2 : decode cX0_seekPlaces 2 = .ok (.putfield 87, 3) := by decide +kernel
theorem dX0_seekPlaces_5 : decode cX0_seekPlaces 5 = .ok (.aload_n 0, 1) := by decide +kernel
theorem dX0_seekPlaces_6 : decode cX0_seekPlaces 6 = .ok (.bipush (-9), 2) := by decide +kernel
theorem dX0_seekPlaces_8 : decode cX0_seekPlaces 8 = .ok (.putfield 90, 3) := by decide +kernel
theorem dX0_seekPlaces_11 : decode cX0_seekPlaces 11 = .ok (.iconst 0, 1) := by decide +kernel
theorem dX0_seekPlaces_12 : decode cX0_seekPlaces 12 = .ok (.istore_n 2, 1) := by decide +kernel
theorem dX0_seekPlaces_13 : decode cX0_seekPlaces 13 = .ok (.iload_n 2, 1) := by decide +kernel
theorem dX0_seekPlaces_14 : decode cX0_seekPlaces 14 = .ok (.bipush 29, 2) := by decide +kernel
theorem dX0_seekPlaces_16 : decode cX0_seekPlaces 16 = .ok (.if_icmp .gt 76, 3) := by decide +kernel
theorem dX0_seekPlaces_19 : decode cX0_seekPlaces 19 = .ok (.iconst 0, 1) := by decide +kernel
theorem dX0_seekPlaces_20 : decode cX0_seekPlaces 20 = .ok (.istore_n 3, 1) := by decide +kernel
theorem dX0_seekPlaces_21 : decode cX0_seekPlaces 21 = .ok (.iload_n 3, 1) := by decide +kernel
theorem dX0_seekPlaces_22 : decode cX0_seekPlaces 22 = .ok (.bipush 29, 2) := by decide +kernel
theorem dX0_seekPlaces_24 : decode cX0_seekPlaces 24 = .ok (.if_icmp .gt 62, 3) := by decide +kernel
theorem dX0_seekPlaces_27 : decode cX0_seekPlaces 27 = .ok (.aload_n 0, 1) := by decide +kernel
theorem dX0_seekPlaces_28 : decode cX0_seekPlaces 28 = .ok (.iload_n 1, 1) := by decide +kernel
theorem dX0_seekPlaces_29 : decode cX0_seekPlaces 29 = .ok (.iload_n 2, 1) := by decide +kernel
theorem dX0_seekPlaces_30 : decode cX0_seekPlaces 30 = .ok (.iload_n 3, 1) := by decide +kernel
theorem dX0_seekPlaces_31 : decode cX0_seekPlaces 31 = .ok (.invokevirtual 93, 3) := by decide +kernel
theorem dX0_seekPlaces_34 : decode cX0_seekPlaces 34 = .ok (.istore 4, 2) := by decide +kernel
theorem dX0_seekPlaces_36 : decode cX0_seekPlaces 36 = .ok (.iload 4, 2) := by decide +kernel
theorem dX0_seekPlaces_38 : decode cX0_seekPlaces 38 = .ok (.bipush 60, 2) := by decide +kernel
theorem dX0_seekPlaces_40 : decode cX0_seekPlaces 40 = .ok (.invokestatic 97, 3) := by decide +kernel
theorem dX0_seekPlaces_43 : decode cX0_seekPlaces 43 = .ok (.ifCond .eq 37, 3) := by decide +kernel
theorem dX0_seekPlaces_46 : decode cX0_seekPlaces 46 = .ok (.aload_n 0, 1) := by decide +kernel
theorem dX0_seekPlaces_47 : decode cX0_seekPlaces 47 = .ok (.getfield 87, 3) := by decide +kernel
theorem dX0_seekPlaces_50 : decode cX0_seekPlaces 50 = .ok (.ifCond .ne 20, 3) := by decide +kernel
theorem dX0_seekPlaces_53 : decode cX0_seekPlaces 53 = .ok (.aload_n 0, 1) := by decide +kernel
theorem dX0_seekPlaces_54 : decode cX0_seekPlaces 54 = .ok (.sipush 10000, 3) := by decide +kernel
theorem dX0_seekPlaces_57 : decode cX0_seekPlaces 57 = .ok (.iload_n 2, 1) := by decide +kernel
theorem dX0_seekPlaces_58 : decode cX0_seekPlaces 58 = .ok (.imul, 1) := by decide +kernel
theorem dX0_seekPlaces_59 : decode cX0_seekPlaces 59 = .ok (.bipush 100, 2) := by decide +kernel
theorem dX0_seekPlaces_61 : decode cX0_seekPlaces 61 = .ok (.iload_n 3, 1) := by decide +kernel
theorem dX0_seekPlaces_62 : decode cX0_seekPlaces 62 = .ok (.imul, 1) := by decide +kernel
theorem dX0_seekPlaces_63 : decode cX0_seekPlaces 63 = .ok (.iadd, 1) := by decide +kernel
theorem dX0_seekPlaces_64 : decode cX0_seekPlaces 64 = .ok (.iload 4, 2) := by decide +kernel
theorem dX0_seekPlaces_66 : decode cX0_seekPlaces 66 = .ok (.iadd, 1) := by decide +kernel
theorem dX0_seekPlaces_67 : decode cX0_seekPlaces 67 = .ok (.putfield 90, 3) := by decide +kernel
theorem dX0_seekPlaces_70 : decode cX0_seekPlaces 70 = .ok (.aload_n 0, 1) := by decide +kernel
theorem dX0_seekPlaces_71 : decode cX0_seekPlaces 71 = .ok (.dup, 1) := by decide +kernel
theorem dX0_seekPlaces_72 : decode cX0_seekPlaces 72 = .ok (.getfield 87, 3) := by decide +kernel
theorem dX0_seekPlaces_75 : decode cX0_seekPlaces 75 = .ok (.iconst 1, 1) := by decide +kernel
theorem dX0_seekPlaces_76 : decode cX0_seekPlaces 76 = .ok (.iadd, 1) := by decide +kernel
theorem dX0_seekPlaces_77 : decode cX0_seekPlaces 77 = .ok (.putfield 87, 3) := by decide +kernel
theorem dX0_seekPlaces_80 : decode cX0_seekPlaces 80 = .ok (.iinc 3 1, 3) := by decide +kernel
theorem dX0_seekPlaces_83 : decode cX0_seekPlaces 83 = .ok (.goto (-62), 3) := by decide +kernel
theorem dX0_seekPlaces_86 : decode cX0_seekPlaces 86 = .ok (.iinc 2 1, 3) := by decide +kernel
theorem dX0_seekPlaces_89 : decode cX0_seekPlaces 89 = .ok (.goto (-76), 3) := by decide +kernel
theorem dX0_seekPlaces_92 : decode cX0_seekPlaces 92 = .ok (.return_, 1) := by decide +kernel
theorem dX0_strokeTime_0 : decode cX0_strokeTime 0 = .ok (.iconst (-1), 1) := by decide +kernel
theorem dX0_strokeTime_1 : decode cX0_strokeTime 1 = .ok (.istore 4, 2) := by decide +kernel
theorem dX0_strokeTime_3 : decode cX0_strokeTime 3 = .ok (.iconst 0, 1) := by decide +kernel
theorem dX0_strokeTime_4 : decode cX0_strokeTime 4 = .ok (.istore 5, 2) := by decide +kernel
theorem dX0_strokeTime_6 : decode cX0_strokeTime 6 = .ok (.iload 5, 2) := by decide +kernel
theorem dX0_strokeTime_8 : decode cX0_strokeTime 8 = .ok (.aload_n 0, 1) := by decide +kernel
theorem dX0_strokeTime_9 : decode cX0_strokeTime 9 = .ok (.getfield 9, 3) := by decide +kernel
theorem dX0_strokeTime_12 : decode cX0_strokeTime 12 = .ok (.getfield 55, 3) := by decide +kernel
theorem dX0_strokeTime_15 : decode cX0_strokeTime 15 = .ok (.if_icmp .ge 90, 3) := by decide +kernel
theorem dX0_strokeTime_18 : decode cX0_strokeTime 18 = .ok (.iload_n 1, 1) := by decide +kernel
theorem dX0_strokeTime_19 : decode cX0_strokeTime 19 = .ok (.iload 5, 2) := by decide +kernel
theorem dX0_strokeTime_21 : decode cX0_strokeTime 21 = .ok (.invokestatic 60, 3) := by decide +kernel
theorem dX0_strokeTime_24 : decode cX0_strokeTime 24 = .ok (.ifCond .eq 75, 3) := by decide +kernel
theorem dX0_strokeTime_27 : decode cX0_strokeTime 27 = .ok (.iload_n 2, 1) := by decide +kernel
theorem dX0_strokeTime_28 : decode cX0_strokeTime 28 = .ok (.aload_n 0, 1) := by decide +kernel
theorem dX0_strokeTime_29 : decode cX0_strokeTime 29 = .ok (.getfield 9, 3) := by decide +kernel
theorem dX0_strokeTime_32 : decode cX0_strokeTime 32 = .ok (.getfield 100, 3) := by decide +kernel
theorem dX0_strokeTime_35 : decode cX0_strokeTime 35 = .ok (.iload 5, 2) := by decide +kernel
theorem dX0_strokeTime_37 : decode cX0_strokeTime 37 = .ok (.iaload, 1) := by decide +kernel
theorem dX0_strokeTime_38 : decode cX0_strokeTime 38 = .ok (.isub, 1) := by decide +kernel
theorem dX0_strokeTime_39 : decode cX0_strokeTime 39 = .ok (.iload_n 3, 1) := by decide +kernel
theorem dX0_strokeTime_40 : decode cX0_strokeTime 40 = .ok (.aload_n 0, 1) := by decide +kernel
theorem dX0_strokeTime_41 : decode cX0_strokeTime 41 = .ok (.getfield 9, 3) := by decide +kernel
theorem dX0_strokeTime_44 : decode cX0_strokeTime 44 = .ok (.getfield 104, 3) := by decide +kernel
theorem dX0_strokeTime_47 : decode cX0_strokeTime 47 = .ok (.iload 5, 2) := by decide +kernel
theorem dX0_strokeTime_49 : decode cX0_strokeTime 49 = .ok (.iaload, 1) := by decide +kernel
theorem dX0_strokeTime_50 : decode cX0_strokeTime 50 = .ok (.isub, 1) := by decide +kernel
theorem dX0_strokeTime_51 : decode cX0_strokeTime 51 = .ok (.invokestatic 107, 3) := by decide +kernel
theorem dX0_strokeTime_54 : decode cX0_strokeTime 54 = .ok (.istore 6, 2) := by decide +kernel
theorem dX0_strokeTime_56 : decode cX0_strokeTime 56 = .ok (.aload_n 0, 1) := by decide +kernel
theorem dX0_strokeTime_57 : decode cX0_strokeTime 57 = .ok (.getfield 9, 3) := by decide +kernel
theorem dX0_strokeTime_60 : decode cX0_strokeTime 60 = .ok (.getfield 111, 3) := by decide +kernel
theorem dX0_strokeTime_63 : decode cX0_strokeTime 63 = .ok (.iload 5, 2) := by decide +kernel
theorem dX0_strokeTime_65 : decode cX0_strokeTime 65 = .ok (.iaload, 1) := by decide +kernel
theorem dX0_strokeTime_66 : decode cX0_strokeTime 66 = .ok (.iload 6, 2) := by decide +kernel
theorem dX0_strokeTime_68 : decode cX0_strokeTime 68 = .ok (.isub, 1) := by decide +kernel
theorem dX0_strokeTime_69 : decode cX0_strokeTime 69 = .ok (.istore 7, 2) := by decide +kernel
theorem dX0_strokeTime_71 : decode cX0_strokeTime 71 = .ok (.iload 6, 2) := by decide +kernel
theorem dX0_strokeTime_73 : decode cX0_strokeTime 73 = .ok (.ifCond .lt 20, 3) := by decide +kernel
theorem dX0_strokeTime_76 : decode cX0_strokeTime 76 = .ok (.iload 7, 2) := by decide +kernel
theorem dX0_strokeTime_78 : decode cX0_strokeTime 78 = .ok (.ifCond .lt 15, 3) := by decide +kernel
theorem dX0_strokeTime_81 : decode cX0_strokeTime 81 = .ok (.iload 4, 2) := by decide +kernel
theorem dX0_strokeTime_83 : decode cX0_strokeTime 83 = .ok (.ifCond .lt 12, 3) := by decide +kernel
theorem dX0_strokeTime_86 : decode cX0_strokeTime 86 = .ok (.iload 7, 2) := by decide +kernel
theorem dX0_strokeTime_88 : decode cX0_strokeTime 88 = .ok (.iload 4, 2) := by decide +kernel
theorem dX0_strokeTime_90 : decode cX0_strokeTime 90 = .ok (.if_icmp .eq 5, 3) := by decide +kernel
theorem dX0_strokeTime_93 : decode cX0_strokeTime 93 = .ok (.iconst (-1), 1) := by decide +kernel
theorem dX0_strokeTime_94 : decode cX0_strokeTime 94 = .ok (.ireturn, 1) := by decide +kernel
theorem dX0_strokeTime_95 : decode cX0_strokeTime 95 = .ok (.iload 7, 2) := by decide +kernel
theorem dX0_strokeTime_97 : decode cX0_strokeTime 97 = .ok (.istore 4, 2) := by decide +kernel
theorem dX0_strokeTime_99 : decode cX0_strokeTime 99 = .ok (.iinc 5 1, 3) := by decide +kernel
theorem dX0_strokeTime_102 : decode cX0_strokeTime 102 = .ok (.goto (-96), 3) := by decide +kernel
theorem dX0_strokeTime_105 : decode cX0_strokeTime 105 = .ok (.iload 4, 2) := by decide +kernel
theorem dX0_strokeTime_107 : decode cX0_strokeTime 107 = .ok (.ireturn, 1) := by decide +kernel
theorem dX0_sureCases_0 : decode cX0_sureCases 0 = .ok (.iload_n 1, 1) := by decide +kernel
theorem dX0_sureCases_1 : decode cX0_sureCases 1 = .ok (.invokestatic 29, 3) := by decide +kernel
theorem dX0_sureCases_4 : decode cX0_sureCases 4 = .ok (.istore_n 3, 1) := by decide +kernel
theorem dX0_sureCases_5 : decode cX0_sureCases 5 = .ok (.lconst 0, 1) := by decide +kernel
theorem dX0_sureCases_6 : decode cX0_sureCases 6 = .ok (.lstore 4, 2) := by decide +kernel
theorem dX0_sureCases_8 : decode cX0_sureCases 8 = .ok (.iconst 0, 1) := by decide +kernel
theorem dX0_sureCases_9 : decode cX0_sureCases 9 = .ok (.istore 6, 2) := by decide +kernel
theorem dX0_sureCases_11 : decode cX0_sureCases 11 = .ok (.iload 6, 2) := by decide +kernel
theorem dX0_sureCases_13 : decode cX0_sureCases 13 = .ok (.sipush 512, 3) := by decide +kernel
theorem dX0_sureCases_16 : decode cX0_sureCases 16 = .ok (.if_icmp .ge 66, 3) := by decide +kernel
theorem dX0_sureCases_19 : decode cX0_sureCases 19 = .ok (.iload 6, 2) := by decide +kernel
theorem dX0_sureCases_21 : decode cX0_sureCases 21 = .ok (.invokestatic 29, 3) := by decide +kernel
theorem dX0_sureCases_24 : decode cX0_sureCases 24 = .ok (.istore 7, 2) := by decide +kernel
theorem dX0_sureCases_26 : decode cX0_sureCases 26 = .ok (.iload 7, 2) := by decide +kernel
theorem dX0_sureCases_28 : decode cX0_sureCases 28 = .ok (.iconst 4, 1) := by decide +kernel
theorem dX0_sureCases_29 : decode cX0_sureCases 29 = .ok (.if_icmp .lt 47, 3) := by decide +kernel
theorem dX0_sureCases_32 : decode cX0_sureCases 32 = .ok (.iload 6, 2) := by decide +kernel
theorem dX0_sureCases_34 : decode cX0_sureCases 34 = .ok (.iload_n 1, 1) := by decide +kernel
theorem dX0_sureCases_35 : decode cX0_sureCases 35 = .ok (.iconst (-1), 1) := by decide +kernel
theorem dX0_sureCases_36 : decode cX0_sureCases 36 = .ok (.ixor, 1) := by decide +kernel
theorem dX0_sureCases_37 : decode cX0_sureCases 37 = .ok (.iand, 1) := by decide +kernel
theorem dX0_sureCases_38 : decode cX0_sureCases 38 = .ok (.ifCond .ne 38, 3) := by decide +kernel
theorem dX0_sureCases_41 : decode cX0_sureCases 41 = .ok (.aload_n 0, 1) := by decide +kernel
theorem dX0_sureCases_42 : decode cX0_sureCases 42 = .ok (.getfield 15, 3) := by decide +kernel
theorem dX0_sureCases_45 : decode cX0_sureCases 45 = .ok (.iload 6, 2) := by decide +kernel
theorem dX0_sureCases_47 : decode cX0_sureCases 47 = .ok (.invokevirtual 23, 3) := by decide +kernel
theorem dX0_sureCases_50 : decode cX0_sureCases 50 = .ok (.ifCond .ne 26, 3) := by decide +kernel
theorem dX0_sureCases_53 : decode cX0_sureCases 53 = .ok (.lload 4, 2) := by decide +kernel
theorem dX0_sureCases_55 : decode cX0_sureCases 55 = .ok (.bipush 10, 2) := by decide +kernel
theorem dX0_sureCases_57 : decode cX0_sureCases 57 = .ok (.iload_n 2, 1) := by decide +kernel
theorem dX0_sureCases_58 : decode cX0_sureCases 58 = .ok (.isub, 1) := by decide +kernel
theorem dX0_sureCases_59 : decode cX0_sureCases 59 = .ok (.iload 7, 2) := by decide +kernel
theorem dX0_sureCases_61 : decode cX0_sureCases 61 = .ok (.invokestatic 114, 3) := by decide +kernel
theorem dX0_sureCases_64 : decode cX0_sureCases 64 = .ok (.iload_n 2, 1) := by decide +kernel
theorem dX0_sureCases_65 : decode cX0_sureCases 65 = .ok (.iload_n 3, 1) := by decide +kernel
theorem dX0_sureCases_66 : decode cX0_sureCases 66 = .ok (.iload 7, 2) := by decide +kernel
theorem dX0_sureCases_68 : decode cX0_sureCases 68 = .ok (.isub, 1) := by decide +kernel
theorem dX0_sureCases_69 : decode cX0_sureCases 69 = .ok (.invokestatic 114, 3) := by decide +kernel
theorem dX0_sureCases_72 : decode cX0_sureCases 72 = .ok (.lmul, 1) := by decide +kernel
theorem dX0_sureCases_73 : decode cX0_sureCases 73 = .ok (.ladd, 1) := by decide +kernel
theorem dX0_sureCases_74 : decode cX0_sureCases 74 = .ok (.lstore 4, 2) := by decide +kernel
theorem dX0_sureCases_76 : decode cX0_sureCases 76 = .ok (.iinc 6 1, 3) := by decide +kernel
theorem dX0_sureCases_79 : decode cX0_sureCases 79 = .ok (.goto (-68), 3) := by decide +kernel
theorem dX0_sureCases_82 : decode cX0_sureCases 82 = .ok (.lload 4, 2) := by decide +kernel
theorem dX0_sureCases_84 : decode cX0_sureCases 84 = .ok (.lreturn, 1) := by decide +kernel
