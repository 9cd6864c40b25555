theorem dX9_count_89 : decode cX9_count 89 = .ok (.iconst (-1), 1) := by decide +kernel
theorem dX9_count_90 : decode cX9_count 90 = .ok (.ireturn, 1) := by decide +kernel
theorem dX9_regroup_0 : decode cX9_regroup 0 = .ok (.aload_n 0, 1) := by decide +kernel
theorem dX9_regroup_1 : decode cX9_regroup 1 = .ok (.getfield 55, 3) := by decide +kernel
theorem dX9_regroup_4 : decode cX9_regroup 4 = .ok (.aload_n 0, 1) := by decide +kernel
theorem dX9_regroup_5 : decode cX9_regroup 5 = .ok (.getfield 26, 3) := by decide +kernel
theorem dX9_regroup_8 : decode cX9_regroup 8 = .ok (.aload_n 0, 1) := by decide +kernel
theorem dX9_regroup_9 : decode cX9_regroup 9 = .ok (.getfield 33, 3) := by decide +kernel
theorem dX9_regroup_12 : decode cX9_regroup 12 = .ok (.invokevirtual 212, 3) := by decide +kernel
theorem dX9_regroup_15 : decode cX9_regroup 15 = .ok (.aload_n 0, 1) := by decide +kernel
theorem dX9_regroup_16 : decode cX9_regroup 16 = .ok (.getfield 62, 3) := by decide +kernel
theorem dX9_regroup_19 : decode cX9_regroup 19 = .ok (.aload_n 0, 1) := by decide +kernel
theorem dX9_regroup_20 : decode cX9_regroup 20 = .ok (.getfield 55, 3) := by decide +kernel
theorem dX9_regroup_23 : decode cX9_regroup 23 = .ok (.invokevirtual 239, 3) := by decide +kernel
theorem dX9_regroup_26 : decode cX9_regroup 26 = .ok (.return_, 1) := by decide +kernel
theorem dX9_sureGroups_0 : decode cX9_sureGroups 0 = .ok (.aload_n 0, 1) := by decide +kernel
theorem dX9_sureGroups_1 : decode cX9_sureGroups 1 = .ok (.invokevirtual 140, 3) := by decide +kernel
theorem dX9_sureGroups_4 : decode cX9_sureGroups 4 = .ok (.iconst 0, 1) := by decide +kernel
theorem dX9_sureGroups_5 : decode cX9_sureGroups 5 = .ok (.istore_n 1, 1) := by decide +kernel
theorem dX9_sureGroups_6 : decode cX9_sureGroups 6 = .ok (.iconst 0, 1) := by decide +kernel
theorem dX9_sureGroups_7 : decode cX9_sureGroups 7 = .ok (.istore_n 2, 1) := by decide +kernel
theorem dX9_sureGroups_8 : decode cX9_sureGroups 8 = .ok (.iload_n 2, 1) := by decide +kernel
theorem dX9_sureGroups_9 : decode cX9_sureGroups 9 = .ok (.aload_n 0, 1) := by decide +kernel
theorem dX9_sureGroups_10 : decode cX9_sureGroups 10 = .ok (.getfield 62, 3) := by decide +kernel
theorem dX9_sureGroups_13 : decode cX9_sureGroups 13 = .ok (.getfield 160, 3) := by decide +kernel
theorem dX9_sureGroups_16 : decode cX9_sureGroups 16 = .ok (.if_icmp .ge 31, 3) := by decide +kernel
theorem dX9_sureGroups_19 : decode cX9_sureGroups 19 = .ok (.aload_n 0, 1) := by decide +kernel
theorem dX9_sureGroups_20 : decode cX9_sureGroups 20 = .ok (.getfield 71, 3) := by decide +kernel
theorem dX9_sureGroups_23 : decode cX9_sureGroups 23 = .ok (.aload_n 0, 1) := by decide +kernel
theorem dX9_sureGroups_24 : decode cX9_sureGroups 24 = .ok (.getfield 62, 3) := by decide +kernel
theorem dX9_sureGroups_27 : decode cX9_sureGroups 27 = .ok (.getfield 161, 3) := by decide +kernel
theorem dX9_sureGroups_30 : decode cX9_sureGroups 30 = .ok (.iload_n 2, 1) := by decide +kernel
theorem dX9_sureGroups_31 : decode cX9_sureGroups 31 = .ok (.iaload, 1) := by decide +kernel
theorem dX9_sureGroups_32 : decode cX9_sureGroups 32 = .ok (.invokevirtual 170, 3) := by decide +kernel
theorem dX9_sureGroups_35 : decode cX9_sureGroups 35 = .ok (.ifCond .ne 6, 3) := by decide +kernel
theorem dX9_sureGroups_38 : decode cX9_sureGroups 38 = .ok (.iinc 1 1, 3) := by decide +kernel
theorem dX9_sureGroups_41 : decode cX9_sureGroups 41 = .ok (.iinc 2 1, 3) := by decide +kernel
theorem dX9_sureGroups_44 : decode cX9_sureGroups 44 = .ok (.goto (-36), 3) := by decide +kernel
theorem dX9_sureGroups_47 : decode cX9_sureGroups 47 = .ok (.iload_n 1, 1) := by decide +kernel
theorem dX9_sureGroups_48 : decode cX9_sureGroups 48 = .ok (.ireturn, 1) := by decide +kernel
theorem dX9_hasStation_0 : decode cX9_hasStation 0 = .ok (.iload_n 1, 1) := by decide +kernel
theorem dX9_hasStation_1 : decode cX9_hasStation 1 = .ok (.aload_n 0, 1) := by decide +kernel
theorem dX9_hasStation_2 : decode cX9_hasStation 2 = .ok (.getfield 26, 3) := by decide +kernel
theorem dX9_hasStation_5 : decode cX9_hasStation 5 = .ok (.getfield 234, 3) := by decide +kernel
theorem dX9_hasStation_8 : decode cX9_hasStation 8 = .ok (.iconst 1, 1) := by decide +kernel
theorem dX9_hasStation_9 : decode cX9_hasStation 9 = .ok (.isub, 1) := by decide +kernel
theorem dX9_hasStation_10 : decode cX9_hasStation 10 = .ok (.invokestatic 84, 3) := by decide +kernel
theorem dX9_hasStation_13 : decode cX9_hasStation 13 = .ok (.ireturn, 1) := by decide +kernel
theorem dX9_hasReading_0 : decode cX9_hasReading 0 = .ok (.iload_n 1, 1) := by decide +kernel
theorem dX9_hasReading_1 : decode cX9_hasReading 1 = .ok (.aload_n 0, 1) := by decide +kernel
theorem dX9_hasReading_2 : decode cX9_hasReading 2 = .ok (.getfield 33, 3) := by decide +kernel
theorem dX9_hasReading_5 : decode cX9_hasReading 5 = .ok (.getfield 146, 3) := by decide +kernel
theorem dX9_hasReading_8 : decode cX9_hasReading 8 = .ok (.iconst 1, 1) := by decide +kernel
theorem dX9_hasReading_9 : decode cX9_hasReading 9 = .ok (.isub, 1) := by decide +kernel
theorem dX9_hasReading_10 : decode cX9_hasReading 10 = .ok (.invokestatic 84, 3) := by decide +kernel
theorem dX9_hasReading_13 : decode cX9_hasReading 13 = .ok (.ireturn, 1) := by decide +kernel
theorem dX9_within_0 : decode cX9_within 0 = .ok (.iload_n 0, 1) := by decide +kernel
theorem dX9_within_1 : decode cX9_within 1 = .ok (.ifCond .lt 12, 3) := by decide +kernel
theorem dX9_within_4 : decode cX9_within 4 = .ok (.iload_n 0, 1) := by decide +kernel
theorem dX9_within_5 : decode cX9_within 5 = .ok (.iload_n 1, 1) := by decide +kernel
theorem dX9_within_6 : decode cX9_within 6 = .ok (.if_icmp .gt 7, 3) := by decide +kernel
theorem dX9_within_9 : decode cX9_within 9 = .ok (.iconst 1, 1) := by decide +kernel
theorem dX9_within_10 : decode cX9_within 10 = .ok (.goto 4, 3) := by decide +kernel
theorem dX9_within_13 : decode cX9_within 13 = .ok (.iconst 0, 1) := by decide +kernel
theorem dX9_within_14 : decode cX9_within 14 = .ok (.ireturn, 1) := by decide +kernel
theorem dX9_holds_0 : decode cX9_holds 0 = .ok (.iload_n 0, 1) := by decide +kernel
theorem dX9_holds_1 : decode cX9_holds 1 = .ok (.iload_n 1, 1) := by decide +kernel
theorem dX9_holds_2 : decode cX9_holds 2 = .ok (.ishr, 1) := by decide +kernel
theorem dX9_holds_3 : decode cX9_holds 3 = .ok (.iconst 1, 1) := by decide +kernel
theorem dX9_holds_4 : decode cX9_holds 4 = .ok (.iand, 1) := by decide +kernel
theorem dX9_holds_5 : decode cX9_holds 5 = .ok (.ifCond .eq 7, 3) := by decide +kernel
theorem dX9_holds_8 : decode cX9_holds 8 = .ok (.iconst 1, 1) := by decide +kernel
theorem dX9_holds_9 : decode cX9_holds 9 = .ok (.goto 4, 3) := by decide +kernel
theorem dX9_holds_12 : decode cX9_holds 12 = .ok (.iconst 0, 1) := by decide +kernel
theorem dX9_holds_13 : decode cX9_holds 13 = .ok (.ireturn, 1) := by decide +kernel
theorem dX9_timeOf_0 : decode cX9_timeOf 0 = .ok (.iload_n 0, 1) := by decide +kernel
theorem dX9_timeOf_1 : decode cX9_timeOf 1 = .ok (.tableswitch 48 1 4 #[31, 35, 39, 43], 31) := by decide +kernel
theorem dX9_timeOf_32 : decode cX9_timeOf 32 = .ok (.iload_n 1, 1) := by decide +kernel
theorem dX9_timeOf_33 : decode cX9_timeOf 33 = .ok (.iconst 3, 1) := by decide +kernel
theorem dX9_timeOf_34 : decode cX9_timeOf 34 = .ok (.isub, 1) := by decide +kernel
theorem dX9_timeOf_35 : decode cX9_timeOf 35 = .ok (.ireturn, 1) := by decide +kernel
theorem dX9_timeOf_36 : decode cX9_timeOf 36 = .ok (.iload_n 1, 1) := by decide +kernel
theorem dX9_timeOf_37 : decode cX9_timeOf 37 = .ok (.iconst 3, 1) := by decide +kernel
theorem dX9_timeOf_38 : decode cX9_timeOf 38 = .ok (.iadd, 1) := by decide +kernel
theorem dX9_timeOf_39 : decode cX9_timeOf 39 = .ok (.ireturn, 1) := by decide +kernel
theorem dX9_timeOf_40 : decode cX9_timeOf 40 = .ok (.iload_n 1, 1) := by decide +kernel
theorem dX9_timeOf_41 : decode cX9_timeOf 41 = .ok (.iconst 2, 1) := by decide +kernel
theorem dX9_timeOf_42 : decode cX9_timeOf 42 = .ok (.idiv, 1) := by decide +kernel
theorem dX9_timeOf_43 : decode cX9_timeOf 43 = .ok (.ireturn, 1) := by decide +kernel
theorem dX9_timeOf_44 : decode cX9_timeOf 44 = .ok (.bipush 60, 2) := by decide +kernel
theorem dX9_timeOf_46 : decode cX9_timeOf 46 = .ok (.iload_n 1, 1) := by decide +kernel
theorem dX9_timeOf_47 : decode cX9_timeOf 47 = .ok (.isub, 1) := by decide +kernel
theorem dX9_timeOf_48 : decode cX9_timeOf 48 = .ok (.ireturn, 1) := by decide +kernel
theorem dX9_timeOf_49 : decode cX9_timeOf 49 = .ok (.iload_n 1, 1) := by decide +kernel
theorem dX9_timeOf_50 : decode cX9_timeOf 50 = .ok (.ireturn, 1) := by decide +kernel
theorem dX9_toldAt_0 : decode cX9_toldAt 0 = .ok (.iload_n 0, 1) := by decide +kernel
theorem dX9_toldAt_1 : decode cX9_toldAt 1 = .ok (.tableswitch 48 1 4 #[31, 35, 39, 43], 31) := by decide +kernel
theorem dX9_toldAt_32 : decode cX9_toldAt 32 = .ok (.iload_n 1, 1) := by decide +kernel
theorem dX9_toldAt_33 : decode cX9_toldAt 33 = .ok (.iconst 3, 1) := by decide +kernel
theorem dX9_toldAt_34 : decode cX9_toldAt 34 = .ok (.iadd, 1) := by decide +kernel
theorem dX9_toldAt_35 : decode cX9_toldAt 35 = .ok (.ireturn, 1) := by decide +kernel
theorem dX9_toldAt_36 : decode cX9_toldAt 36 = .ok (.iload_n 1, 1) := by decide +kernel
theorem dX9_toldAt_37 : decode cX9_toldAt 37 = .ok (.iconst 3, 1) := by decide +kernel
theorem dX9_toldAt_38 : decode cX9_toldAt 38 = .ok (.isub, 1) := by decide +kernel
theorem dX9_toldAt_39 : decode cX9_toldAt 39 = .ok (.ireturn, 1) := by decide +kernel
theorem dX9_toldAt_40 : decode cX9_toldAt 40 = .ok (.iconst 2, 1) := by decide +kernel
theorem dX9_toldAt_41 : decode cX9_toldAt 41 = .ok (.iload_n 1, 1) := by decide +kernel
theorem dX9_toldAt_42 : decode cX9_toldAt 42 = .ok (.imul, 1) := by decide +kernel
theorem dX9_toldAt_43 : decode cX9_toldAt 43 = .ok (.ireturn, 1) := by decide +kernel
theorem dX9_toldAt_44 : decode cX9_toldAt 44 = .ok (.bipush 60, 2) := by decide +kernel
theorem dX9_toldAt_46 : decode cX9_toldAt 46 = .ok (.iload_n 1, 1) := by decide +kernel
theorem dX9_toldAt_47 : decode cX9_toldAt 47 = .ok (.isub, 1) := by decide +kernel
theorem dX9_toldAt_48 : decode cX9_toldAt 48 = .ok (.ireturn, 1) := by decide +kernel
theorem dX9_toldAt_49 : decode cX9_toldAt 49 = .ok (.iload_n 1, 1) := by decide +kernel
theorem dX9_toldAt_50 : decode cX9_toldAt 50 = .ok (.ireturn, 1) := by decide +kernel
theorem dX9_wholeWay_0 : decode cX9_wholeWay 0 = .ok (.iload_n 0, 1) := by decide +kernel
theorem dX9_wholeWay_1 : decode cX9_wholeWay 1 = .ok (.iload_n 0, 1) := by decide +kernel
theorem dX9_wholeWay_2 : decode cX9_wholeWay 2 = .ok (.imul, 1) := by decide +kernel
theorem dX9_wholeWay_3 : decode cX9_wholeWay 3 = .ok (.iload_n 1, 1) := by decide +kernel
theorem dX9_wholeWay_4 : decode cX9_wholeWay 4 = .ok (.iload_n 1, 1) := by decide +kernel
theorem dX9_wholeWay_5 : decode cX9_wholeWay 5 = .ok (.imul, 1) := by decide +kernel
theorem dX9_wholeWay_6 : decode cX9_wholeWay 6 = .ok (.iadd, 1) := by decide +kernel
theorem dX9_wholeWay_7 : decode cX9_wholeWay 7 = .ok (.istore_n 2, 1) := by decide +kernel
theorem dX9_wholeWay_8 : decode cX9_wholeWay 8 = .ok (.iconst 0, 1) := by decide +kernel
theorem dX9_wholeWay_9 : decode cX9_wholeWay 9 = .ok (.istore_n 3, 1) := by decide +kernel
theorem dX9_wholeWay_10 : decode cX9_wholeWay 10 = .ok (.iload_n 3, 1) := by decide +kernel
theorem dX9_wholeWay_11 : decode cX9_wholeWay 11 = .ok (.bipush 41, 2) := by decide +kernel
theorem dX9_wholeWay_13 : decode cX9_wholeWay 13 = .ok (.if_icmp .gt 29, 3) := by decide +kernel
theorem dX9_wholeWay_16 : decode cX9_wholeWay 16 = .ok (.iload_n 3, 1) := by decide +kernel
theorem dX9_wholeWay_17 : decode cX9_wholeWay 17 = .ok (.iload_n 3, 1) := by decide +kernel
theorem dX9_wholeWay_18 : decode cX9_wholeWay 18 = .ok (.imul, 1) := by decide +kernel
theorem dX9_wholeWay_19 : decode cX9_wholeWay 19 = .ok (.iload_n 2, 1) := by decide +kernel
theorem dX9_wholeWay_20 : decode cX9_wholeWay 20 = .ok (.if_icmp .lt 16, 3) := by decide +kernel
theorem dX9_wholeWay_23 : decode cX9_wholeWay 23 = .ok (.iload_n 3, 1) := by decide +kernel
theorem dX9_wholeWay_24 : decode cX9_wholeWay 24 = .ok (.iload_n 3, 1) := by decide +kernel
theorem dX9_wholeWay_25 : decode cX9_wholeWay 25 = .ok (.imul, 1) := by decide +kernel
theorem dX9_wholeWay_26 : decode cX9_wholeWay 26 = .ok (.iload_n 2, 1) := by decide +kernel
theorem dX9_wholeWay_27 : decode cX9_wholeWay 27 = .ok (.if_icmp .ne 7, 3) := by decide +kernel
theorem dX9_wholeWay_30 : decode cX9_wholeWay 30 = .ok (.iload_n 3, 1) := by decide +kernel
theorem dX9_wholeWay_31 : decode cX9_wholeWay 31 = .ok (.goto 4, 3) := by decide +kernel
theorem dX9_wholeWay_34 : decode cX9_wholeWay 34 = .ok (.iconst (-1), 1) := by decide +kernel
theorem dX9_wholeWay_35 : decode cX9_wholeWay 35 = .ok (.ireturn, 1) := by decide +kernel
theorem dX9_wholeWay_36 : decode cX9_wholeWay 36 = .ok (.iinc 3 1, 3) := by decide +kernel
theorem dX9_wholeWay_39 : decode cX9_wholeWay 39 = .ok (.goto (-29), 3) := by decide +kernel
theorem dX9_wholeWay_42 : decode cX9_wholeWay 42 = .ok (.iconst (-1), 1) := by decide +kernel
theorem dX9_wholeWay_43 : decode cX9_wholeWay 43 = .ok (.ireturn, 1) := by decide +kernel
theorem dX9_power_0 : decode cX9_power 0 = .ok (.lconst 1, 1) := by decide +kernel
theorem dX9_power_1 : decode cX9_power 1 = .ok (.lstore_n 2, 1) := by decide +kernel
theorem dX9_power_2 : decode cX9_power 2 = .ok (.iconst 0, 1) := by decide +kernel
theorem dX9_power_3 : decode cX9_power 3 = .ok (.istore 4, 2) := by decide +kernel
theorem dX9_power_5 : decode cX9_power 5 = .ok (.iload 4, 2) := by decide +kernel
theorem dX9_power_7 : decode cX9_power 7 = .ok (.iload_n 1, 1) := by decide +kernel
theorem dX9_power_8 : decode cX9_power 8 = .ok (.if_icmp .ge 14, 3) := by decide +kernel
theorem dX9_power_11 : decode cX9_power 11 = .ok (.lload_n 2, 1) := by decide +kernel
theorem dX9_power_12 : decode cX9_power 12 = .ok (.iload_n 0, 1) := by decide +kernel
theorem dX9_power_13 : decode cX9_power 13 = .ok (.i2l, 1) := by decide +kernel
theorem dX9_power_14 : decode cX9_power 14 = .ok (.lmul, 1) := by decide +kernel
theorem dX9_power_15 : decode cX9_power 15 = .ok (.lstore_n 2, 1) := by decide +kernel
theorem dX9_power_16 : decode cX9_power 16 = .ok (.iinc 4 1, 3) := by decide +kernel
theorem dX9_power_19 : decode cX9_power 19 = .ok (.goto (-14), 3) := by decide +kernel
theorem dX9_power_22 : decode cX9_power 22 = .ok (.lload_n 2, 1) := by decide +kernel
theorem dX9_power_23 : decode cX9_power 23 = .ok (.lreturn, 1) := by decide +kernel
theorem dX9_commonDivisor_0 : decode cX9_commonDivisor 0 = .ok (.lload_n 0, 1) := by decide +kernel
theorem dX9_commonDivisor_1 : decode cX9_commonDivisor 1 = .ok (.invokestatic 242, 3) := by decide +kernel
theorem dX9_commonDivisor_4 : decode cX9_commonDivisor 4 = .ok (.lstore 4, 2) := by decide +kernel
theorem dX9_commonDivisor_6 : decode cX9_commonDivisor 6 = .ok (.lload_n 2, 1) := by decide +kernel
theorem dX9_commonDivisor_7 : decode cX9_commonDivisor 7 = .ok (.invokestatic 242, 3) := by decide +kernel
theorem dX9_commonDivisor_10 : decode cX9_commonDivisor 10 = .ok (.lstore 6, 2) := by decide +kernel
theorem dX9_commonDivisor_12 : decode cX9_commonDivisor 12 = .ok (.iconst 0, 1) := by decide +kernel
theorem dX9_commonDivisor_13 : decode cX9_commonDivisor 13 = .ok (.istore 8, 2) := by decide +kernel
theorem dX9_commonDivisor_15 : decode cX9_commonDivisor 15 = .ok (.iload 8, 2) := by decide +kernel
theorem dX9_commonDivisor_17 : decode cX9_commonDivisor 17 = .ok (.bipush 100, 2) := by decide +kernel
theorem dX9_commonDivisor_19 : decode cX9_commonDivisor 19 = .ok (.if_icmp .ge 31, 3) := by decide +kernel
theorem dX9_commonDivisor_22 : decode cX9_commonDivisor 22 = .ok (.lload 6, 2) := by decide +kernel
theorem dX9_commonDivisor_24 : decode cX9_commonDivisor 24 = .ok (.lconst 0, 1) := by decide +kernel
theorem dX9_commonDivisor_25 : decode cX9_commonDivisor 25 = .ok (.lcmp, 1) := by decide +kernel
theorem dX9_commonDivisor_26 : decode cX9_commonDivisor 26 = .ok (.ifCond .eq 24, 3) := by decide +kernel
theorem dX9_commonDivisor_29 : decode cX9_commonDivisor 29 = .ok (.lload 4, 2) := by decide +kernel
theorem dX9_commonDivisor_31 : decode cX9_commonDivisor 31 = .ok (.lload 6, 2) := by decide +kernel
theorem dX9_commonDivisor_33 : decode cX9_commonDivisor 33 = .ok (.lrem, 1) := by decide +kernel
theorem dX9_commonDivisor_34 : decode cX9_commonDivisor 34 = .ok (.lstore 9, 2) := by decide +kernel
theorem dX9_commonDivisor_36 : decode cX9_commonDivisor 36 = .ok (.lload 6, 2) := by decide +kernel
theorem dX9_commonDivisor_38 : decode cX9_commonDivisor 38 = .ok (.lstore 4, 2) := by decide +kernel
theorem dX9_commonDivisor_40 : decode cX9_commonDivisor 40 = .ok (.lload 9, 2) := by decide +kernel
theorem dX9_commonDivisor_42 : decode cX9_commonDivisor 42 = .ok (.lstore 6, 2) := by decide +kernel
theorem dX9_commonDivisor_44 : decode cX9_commonDivisor 44 = .ok (.iinc 8 1, 3) := by decide +kernel
theorem dX9_commonDivisor_47 : decode cX9_commonDivisor 47 = .ok (.goto (-32), 3) := by decide +kernel
theorem dX9_commonDivisor_50 : decode cX9_commonDivisor 50 = .ok (.lload 4, 2) := by decide +kernel
theorem dX9_commonDivisor_52 : decode cX9_commonDivisor 52 = .ok (.lreturn, 1) := by decide +kernel
theorem dX9_upper_0 : decode cX9_upper 0 = .ok (.lload_n 0, 1) := by decide +kernel
theorem dX9_upper_1 : decode cX9_upper 1 = .ok (.lload_n 2, 1) := by decide +kernel
theorem dX9_upper_2 : decode cX9_upper 2 = .ok (.invokestatic 248, 3) := by decide +kernel
theorem dX9_upper_5 : decode cX9_upper 5 = .ok (.lstore 4, 2) := by decide +kernel
theorem dX9_upper_7 : decode cX9_upper 7 = .ok (.lload 4, 2) := by decide +kernel
theorem dX9_upper_9 : decode cX9_upper 9 = .ok (.lconst 0, 1) := by decide +kernel
theorem dX9_upper_10 : decode cX9_upper 10 = .ok (.lcmp, 1) := by decide +kernel
theorem dX9_upper_11 : decode cX9_upper 11 = .ok (.ifCond .ne 7, 3) := by decide +kernel
theorem dX9_upper_14 : decode cX9_upper 14 = .ok (.iconst 0, 1) := by decide +kernel
theorem dX9_upper_15 : decode cX9_upper 15 = .ok (.goto 8, 3) := by decide +kernel
theorem dX9_upper_18 : decode cX9_upper 18 = .ok (.lload_n 0, 1) := by decide +kernel
theorem dX9_upper_19 : decode cX9_upper 19 = .ok (.lload 4, 2) := by decide +kernel
theorem dX9_upper_21 : decode cX9_upper 21 = .ok (.ldiv, 1) := by decide +kernel
theorem dX9_upper_22 : decode cX9_upper 22 = .ok (.l2i, 1) := by decide +kernel
theorem dX9_upper_23 : decode cX9_upper 23 = .ok (.ireturn, 1) := by decide +kernel
theorem dX9_lower_0 : decode cX9_lower 0 = .ok (.lload_n 0, 1) := by decide +kernel
theorem dX9_lower_1 : decode cX9_lower 1 = .ok (.lload_n 2, 1) := by decide +kernel
theorem dX9_lower_2 : decode cX9_lower 2 = .ok (.invokestatic 248, 3) := by decide +kernel
theorem dX9_lower_5 : decode cX9_lower 5 = .ok (.lstore 4, 2) := by decide +kernel
theorem dX9_lower_7 : decode cX9_lower 7 = .ok (.lload 4, 2) := by decide +kernel
theorem dX9_lower_9 : decode cX9_lower 9 = .ok (.lconst 0, 1) := by decide +kernel
theorem dX9_lower_10 : decode cX9_lower 10 = .ok (.lcmp, 1) := by decide +kernel
theorem dX9_lower_11 : decode cX9_lower 11 = .ok (.ifCond .ne 7, 3) := by decide +kernel
theorem dX9_lower_14 : decode cX9_lower 14 = .ok (.iconst 1, 1) := by decide +kernel
theorem dX9_lower_15 : decode cX9_lower 15 = .ok (.goto 8, 3) := by decide +kernel
theorem dX9_lower_18 : decode cX9_lower 18 = .ok (.lload_n 2, 1) := by decide +kernel
theorem dX9_lower_19 : decode cX9_lower 19 = .ok (.lload 4, 2) := by decide +kernel
theorem dX9_lower_21 : decode cX9_lower 21 = .ok (.ldiv, 1) := by decide +kernel
theorem dX9_lower_22 : decode cX9_lower 22 = .ok (.l2i, 1) := by decide +kernel
theorem dX9_lower_23 : decode cX9_lower 23 = .ok (.ireturn, 1) := by decide +kernel
