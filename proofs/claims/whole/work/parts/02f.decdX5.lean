theorem dX5_init_0 : decode cX5_init 0 = .ok (.aload_n 0, 1) := by decide +kernel
theorem dX5_init_1 : decode cX5_init 1 = .ok (.invokespecial 3, 3) := by decide +kernel
theorem dX5_init_4 : decode cX5_init 4 = .ok (.aload_n 0, 1) := by decide +kernel
theorem dX5_init_5 : decode cX5_init 5 = .ok (.bipush 9, 2) := by decide +kernel
theorem dX5_init_7 : decode cX5_init 7 = .ok (.newarray .int, 2) := by decide +kernel
theorem dX5_init_9 : decode cX5_init 9 = .ok (.putfield 9, 3) := by decide +kernel
theorem dX5_init_12 : decode cX5_init 12 = .ok (.aload_n 0, 1) := by decide +kernel
theorem dX5_init_13 : decode cX5_init 13 = .ok (.bipush 9, 2) := by decide +kernel
theorem dX5_init_15 : decode cX5_init 15 = .ok (.newarray .int, 2) := by decide +kernel
theorem dX5_init_17 : decode cX5_init 17 = .ok (.putfield 15, 3) := by decide +kernel
theorem dX5_init_20 : decode cX5_init 20 = .ok (.aload_n 0, 1) := by decide +kernel
theorem dX5_init_21 : decode cX5_init 21 = .ok (.bipush 9, 2) := by decide +kernel
theorem dX5_init_23 : decode cX5_init 23 = .ok (.newarray .int, 2) := by decide +kernel
theorem dX5_init_25 : decode cX5_init 25 = .ok (.putfield 18, 3) := by decide +kernel
theorem dX5_init_28 : decode cX5_init 28 = .ok (.aload_n 0, 1) := by decide +kernel
theorem dX5_init_29 : decode cX5_init 29 = .ok (.bipush 9, 2) := by decide +kernel
theorem dX5_init_31 : decode cX5_init 31 = .ok (.newarray .int, 2) := by decide +kernel
theorem dX5_init_33 : decode cX5_init 33 = .ok (.putfield 21, 3) := by decide +kernel
theorem dX5_init_36 : decode cX5_init 36 = .ok (.return_, 1) := by decide +kernel
theorem dX5_take_0 : decode cX5_take 0 = .ok (.aload_n 0, 1) := by decide +kernel
theorem dX5_take_1 : decode cX5_take 1 = .ok (.aload_n 2, 1) := by decide +kernel
theorem dX5_take_2 : decode cX5_take 2 = .ok (.getfield 24, 3) := by decide +kernel
theorem dX5_take_5 : decode cX5_take 5 = .ok (.putfield 30, 3) := by decide +kernel
theorem dX5_take_8 : decode cX5_take 8 = .ok (.iconst 0, 1) := by decide +kernel
theorem dX5_take_9 : decode cX5_take 9 = .ok (.istore_n 3, 1) := by decide +kernel
theorem dX5_take_10 : decode cX5_take 10 = .ok (.iload_n 3, 1) := by decide +kernel
theorem dX5_take_11 : decode cX5_take 11 = .ok (.aload_n 0, 1) := by decide +kernel
theorem dX5_take_12 : decode cX5_take 12 = .ok (.getfield 30, 3) := by decide +kernel
theorem dX5_take_15 : decode cX5_take 15 = .ok (.if_icmp .ge 73, 3) := by decide +kernel
theorem dX5_take_18 : decode cX5_take 18 = .ok (.aload_n 2, 1) := by decide +kernel
theorem dX5_take_19 : decode cX5_take 19 = .ok (.getfield 31, 3) := by decide +kernel
theorem dX5_take_22 : decode cX5_take 22 = .ok (.iload_n 3, 1) := by decide +kernel
theorem dX5_take_23 : decode cX5_take 23 = .ok (.iaload, 1) := by decide +kernel
theorem dX5_take_24 : decode cX5_take 24 = .ok (.istore 4, 2) := by decide +kernel
theorem dX5_take_26 : decode cX5_take 26 = .ok (.aload_n 0, 1) := by decide +kernel
theorem dX5_take_27 : decode cX5_take 27 = .ok (.getfield 9, 3) := by decide +kernel
theorem dX5_take_30 : decode cX5_take 30 = .ok (.iload_n 3, 1) := by decide +kernel
theorem dX5_take_31 : decode cX5_take 31 = .ok (.iload 4, 2) := by decide +kernel
theorem dX5_take_33 : decode cX5_take 33 = .ok (.iastore, 1) := by decide +kernel
theorem dX5_take_34 : decode cX5_take 34 = .ok (.aload_n 0, 1) := by decide +kernel
theorem dX5_take_35 : decode cX5_take 35 = .ok (.getfield 15, 3) := by decide +kernel
theorem dX5_take_38 : decode cX5_take 38 = .ok (.iload_n 3, 1) := by decide +kernel
theorem dX5_take_39 : decode cX5_take 39 = .ok (.aload_n 1, 1) := by decide +kernel
theorem dX5_take_40 : decode cX5_take 40 = .ok (.getfield 32, 3) := by decide +kernel
theorem dX5_take_43 : decode cX5_take 43 = .ok (.iload 4, 2) := by decide +kernel
theorem dX5_take_45 : decode cX5_take 45 = .ok (.iaload, 1) := by decide +kernel
theorem dX5_take_46 : decode cX5_take 46 = .ok (.iastore, 1) := by decide +kernel
theorem dX5_take_47 : decode cX5_take 47 = .ok (.aload_n 0, 1) := by decide +kernel
theorem dX5_take_48 : decode cX5_take 48 = .ok (.getfield 18, 3) := by decide +kernel
theorem dX5_take_51 : decode cX5_take 51 = .ok (.iload_n 3, 1) := by decide +kernel
theorem dX5_take_52 : decode cX5_take 52 = .ok (.aload_n 1, 1) := by decide +kernel
theorem dX5_take_53 : decode cX5_take 53 = .ok (.getfield 35, 3) := by decide +kernel
theorem dX5_take_56 : decode cX5_take 56 = .ok (.iload 4, 2) := by decide +kernel
theorem dX5_take_58 : decode cX5_take 58 = .ok (.iaload, 1) := by decide +kernel
theorem dX5_take_59 : decode cX5_take 59 = .ok (.iastore, 1) := by decide +kernel
theorem dX5_take_60 : decode cX5_take 60 = .ok (.aload_n 0, 1) := by decide +kernel
theorem dX5_take_61 : decode cX5_take 61 = .ok (.getfield 21, 3) := by decide +kernel
theorem dX5_take_64 : decode cX5_take 64 = .ok (.iload_n 3, 1) := by decide +kernel
theorem dX5_take_65 : decode cX5_take 65 = .ok (.aload_n 2, 1) := by decide +kernel
theorem dX5_take_66 : decode cX5_take 66 = .ok (.getfield 36, 3) := by decide +kernel
theorem dX5_take_69 : decode cX5_take 69 = .ok (.iload 4, 2) := by decide +kernel
theorem dX5_take_71 : decode cX5_take 71 = .ok (.iaload, 1) := by decide +kernel
theorem dX5_take_72 : decode cX5_take 72 = .ok (.aload_n 2, 1) := by decide +kernel
theorem dX5_take_73 : decode cX5_take 73 = .ok (.getfield 39, 3) := by decide +kernel
theorem dX5_take_76 : decode cX5_take 76 = .ok (.iload_n 3, 1) := by decide +kernel
theorem dX5_take_77 : decode cX5_take 77 = .ok (.iaload, 1) := by decide +kernel
theorem dX5_take_78 : decode cX5_take 78 = .ok (.invokestatic 42, 3) := by decide +kernel
theorem dX5_take_81 : decode cX5_take 81 = .ok (.iastore, 1) := by decide +kernel
theorem dX5_take_82 : decode cX5_take 82 = .ok (.iinc 3 1, 3) := by decide +kernel
theorem dX5_take_85 : decode cX5_take 85 = .ok (.goto (-75), 3) := by decide +kernel
theorem dX5_take_88 : decode cX5_take 88 = .ok (.return_, 1) := by decide +kernel
