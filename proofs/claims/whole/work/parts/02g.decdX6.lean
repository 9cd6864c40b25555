theorem dX6_init_0 : decode cX6_init 0 = .ok (.aload_n 0, 1) := by decide +kernel
theorem dX6_init_1 : decode cX6_init 1 = .ok (.invokespecial 3, 3) := by decide +kernel
theorem dX6_init_4 : decode cX6_init 4 = .ok (.aload_n 0, 1) := by decide +kernel
theorem dX6_init_5 : decode cX6_init 5 = .ok (.bipush 6, 2) := by decide +kernel
theorem dX6_init_7 : decode cX6_init 7 = .ok (.newarray .int, 2) := by decide +kernel
theorem dX6_init_9 : decode cX6_init 9 = .ok (.putfield 9, 3) := by decide +kernel
theorem dX6_init_12 : decode cX6_init 12 = .ok (.aload_n 0, 1) := by decide +kernel
theorem dX6_init_13 : decode cX6_init 13 = .ok (.bipush 6, 2) := by decide +kernel
theorem dX6_init_15 : decode cX6_init 15 = .ok (.newarray .int, 2) := by decide +kernel
theorem dX6_init_17 : decode cX6_init 17 = .ok (.putfield 15, 3) := by decide +kernel
theorem dX6_init_20 : decode cX6_init 20 = .ok (.return_, 1) := by decide +kernel
theorem dX6_copy_0 : decode cX6_copy 0 = .ok (.aload_n 1, 1) := by decide +kernel
theorem dX6_copy_1 : decode cX6_copy 1 = .ok (.getfield 9, 3) := by decide +kernel
theorem dX6_copy_4 : decode cX6_copy 4 = .ok (.iconst 0, 1) := by decide +kernel
theorem dX6_copy_5 : decode cX6_copy 5 = .ok (.aload_n 0, 1) := by decide +kernel
theorem dX6_copy_6 : decode cX6_copy 6 = .ok (.getfield 9, 3) := by decide +kernel
theorem dX6_copy_9 : decode cX6_copy 9 = .ok (.iconst 0, 1) := by decide +kernel
theorem dX6_copy_10 : decode cX6_copy 10 = .ok (.bipush 6, 2) := by decide +kernel
theorem dX6_copy_12 : decode cX6_copy 12 = .ok (.invokestatic 18, 3) := by decide +kernel
theorem dX6_copy_15 : decode cX6_copy 15 = .ok (.aload_n 1, 1) := by decide +kernel
theorem dX6_copy_16 : decode cX6_copy 16 = .ok (.getfield 15, 3) := by decide +kernel
theorem dX6_copy_19 : decode cX6_copy 19 = .ok (.iconst 0, 1) := by decide +kernel
theorem dX6_copy_20 : decode cX6_copy 20 = .ok (.aload_n 0, 1) := by decide +kernel
theorem dX6_copy_21 : decode cX6_copy 21 = .ok (.getfield 15, 3) := by decide +kernel
theorem dX6_copy_24 : decode cX6_copy 24 = .ok (.iconst 0, 1) := by decide +kernel
theorem dX6_copy_25 : decode cX6_copy 25 = .ok (.bipush 6, 2) := by decide +kernel
theorem dX6_copy_27 : decode cX6_copy 27 = .ok (.invokestatic 18, 3) := by decide +kernel
theorem dX6_copy_30 : decode cX6_copy 30 = .ok (.aload_n 0, 1) := by decide +kernel
theorem dX6_copy_31 : decode cX6_copy 31 = .ok (.aload_n 1, 1) := by decide +kernel
theorem dX6_copy_32 : decode cX6_copy 32 = .ok (.getfield 24, 3) := by decide +kernel
theorem dX6_copy_35 : decode cX6_copy 35 = .ok (.putfield 24, 3) := by decide +kernel
theorem dX6_copy_38 : decode cX6_copy 38 = .ok (.return_, 1) := by decide +kernel
theorem dX6_append_0 : decode cX6_append 0 = .ok (.aload_n 0, 1) := by decide +kernel
theorem dX6_append_1 : decode cX6_append 1 = .ok (.getfield 24, 3) := by decide +kernel
theorem dX6_append_4 : decode cX6_append 4 = .ok (.bipush 6, 2) := by decide +kernel
theorem dX6_append_6 : decode cX6_append 6 = .ok (.if_icmp .ge 33, 3) := by decide +kernel
theorem dX6_append_9 : decode cX6_append 9 = .ok (.aload_n 0, 1) := by decide +kernel
theorem dX6_append_10 : decode cX6_append 10 = .ok (.getfield 9, 3) := by decide +kernel
theorem dX6_append_13 : decode cX6_append 13 = .ok (.aload_n 0, 1) := by decide +kernel
theorem dX6_append_14 : decode cX6_append 14 = .ok (.getfield 24, 3) := by decide +kernel
theorem dX6_append_17 : decode cX6_append 17 = .ok (.iload_n 1, 1) := by decide +kernel
theorem dX6_append_18 : decode cX6_append 18 = .ok (.iastore, 1) := by decide +kernel
theorem dX6_append_19 : decode cX6_append 19 = .ok (.aload_n 0, 1) := by decide +kernel
theorem dX6_append_20 : decode cX6_append 20 = .ok (.getfield 15, 3) := by decide +kernel
theorem dX6_append_23 : decode cX6_append 23 = .ok (.aload_n 0, 1) := by decide +kernel
theorem dX6_append_24 : decode cX6_append 24 = .ok (.getfield 24, 3) := by decide +kernel
theorem dX6_append_27 : decode cX6_append 27 = .ok (.iload_n 2, 1) := by decide +kernel
theorem dX6_append_28 : decode cX6_append 28 = .ok (.iastore, 1) := by decide +kernel
theorem dX6_append_29 : decode cX6_append 29 = .ok (.aload_n 0, 1) := by decide +kernel
theorem dX6_append_30 : decode cX6_append 30 = .ok (.dup, 1) := by decide +kernel
theorem dX6_append_31 : decode cX6_append 31 = .ok (.getfield 24, 3) := by decide +kernel
theorem dX6_append_34 : decode cX6_append 34 = .ok (.iconst 1, 1) := by decide +kernel
theorem dX6_append_35 : decode cX6_append 35 = .ok (.iadd, 1) := by decide +kernel
theorem dX6_append_36 : decode cX6_append 36 = .ok (.putfield 24, 3) := by decide +kernel
theorem dX6_append_39 : decode cX6_append 39 = .ok (.return_, 1) := by decide +kernel
