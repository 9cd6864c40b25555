theorem dX2_init_0 : decode cX2_init 0 = .ok (.aload_n 0, 1) := by decide +kernel
theorem dX2_init_1 : decode cX2_init 1 = .ok (.invokespecial 3, 3) := by decide +kernel
theorem dX2_init_4 : decode cX2_init 4 = .ok (.aload_n 0, 1) := by decide +kernel
theorem dX2_init_5 : decode cX2_init 5 = .ok (.bipush 9, 2) := by decide +kernel
theorem dX2_init_7 : decode cX2_init 7 = .ok (.newarray .int, 2) := by decide +kernel
theorem dX2_init_9 : decode cX2_init 9 = .ok (.putfield 9, 3) := by decide +kernel
theorem dX2_init_12 : decode cX2_init 12 = .ok (.aload_n 0, 1) := by decide +kernel
theorem dX2_init_13 : decode cX2_init 13 = .ok (.bipush 9, 2) := by decide +kernel
theorem dX2_init_15 : decode cX2_init 15 = .ok (.newarray .int, 2) := by decide +kernel
theorem dX2_init_17 : decode cX2_init 17 = .ok (.putfield 15, 3) := by decide +kernel
theorem dX2_init_20 : decode cX2_init 20 = .ok (.aload_n 0, 1) := by decide +kernel
theorem dX2_init_21 : decode cX2_init 21 = .ok (.bipush 6, 2) := by decide +kernel
theorem dX2_init_23 : decode cX2_init 23 = .ok (.newarray .int, 2) := by decide +kernel
theorem dX2_init_25 : decode cX2_init 25 = .ok (.putfield 18, 3) := by decide +kernel
theorem dX2_init_28 : decode cX2_init 28 = .ok (.return_, 1) := by decide +kernel
theorem dX2_copy_0 : decode cX2_copy 0 = .ok (.aload_n 1, 1) := by decide +kernel
theorem dX2_copy_1 : decode cX2_copy 1 = .ok (.getfield 9, 3) := by decide +kernel
theorem dX2_copy_4 : decode cX2_copy 4 = .ok (.iconst 0, 1) := by decide +kernel
theorem dX2_copy_5 : decode cX2_copy 5 = .ok (.aload_n 0, 1) := by decide +kernel
theorem dX2_copy_6 : decode cX2_copy 6 = .ok (.getfield 9, 3) := by decide +kernel
theorem dX2_copy_9 : decode cX2_copy 9 = .ok (.iconst 0, 1) := by decide +kernel
theorem dX2_copy_10 : decode cX2_copy 10 = .ok (.bipush 9, 2) := by decide +kernel
theorem dX2_copy_12 : decode cX2_copy 12 = .ok (.invokestatic 21, 3) := by decide +kernel
theorem dX2_copy_15 : decode cX2_copy 15 = .ok (.aload_n 1, 1) := by decide +kernel
theorem dX2_copy_16 : decode cX2_copy 16 = .ok (.getfield 15, 3) := by decide +kernel
theorem dX2_copy_19 : decode cX2_copy 19 = .ok (.iconst 0, 1) := by decide +kernel
theorem dX2_copy_20 : decode cX2_copy 20 = .ok (.aload_n 0, 1) := by decide +kernel
theorem dX2_copy_21 : decode cX2_copy 21 = .ok (.getfield 15, 3) := by decide +kernel
theorem dX2_copy_24 : decode cX2_copy 24 = .ok (.iconst 0, 1) := by decide +kernel
theorem dX2_copy_25 : decode cX2_copy 25 = .ok (.bipush 9, 2) := by decide +kernel
theorem dX2_copy_27 : decode cX2_copy 27 = .ok (.invokestatic 21, 3) := by decide +kernel
theorem dX2_copy_30 : decode cX2_copy 30 = .ok (.aload_n 1, 1) := by decide +kernel
theorem dX2_copy_31 : decode cX2_copy 31 = .ok (.getfield 18, 3) := by decide +kernel
theorem dX2_copy_34 : decode cX2_copy 34 = .ok (.iconst 0, 1) := by decide +kernel
theorem dX2_copy_35 : decode cX2_copy 35 = .ok (.aload_n 0, 1) := by decide +kernel
theorem dX2_copy_36 : decode cX2_copy 36 = .ok (.getfield 18, 3) := by decide +kernel
theorem dX2_copy_39 : decode cX2_copy 39 = .ok (.iconst 0, 1) := by decide +kernel
theorem dX2_copy_40 : decode cX2_copy 40 = .ok (.bipush 6, 2) := by decide +kernel
theorem dX2_copy_42 : decode cX2_copy 42 = .ok (.invokestatic 21, 3) := by decide +kernel
theorem dX2_copy_45 : decode cX2_copy 45 = .ok (.aload_n 0, 1) := by decide +kernel
theorem dX2_copy_46 : decode cX2_copy 46 = .ok (.aload_n 1, 1) := by decide +kernel
theorem dX2_copy_47 : decode cX2_copy 47 = .ok (.getfield 27, 3) := by decide +kernel
theorem dX2_copy_50 : decode cX2_copy 50 = .ok (.putfield 27, 3) := by decide +kernel
theorem dX2_copy_53 : decode cX2_copy 53 = .ok (.return_, 1) := by decide +kernel
theorem dX2_append_0 : decode cX2_append 0 = .ok (.aload_n 0, 1) := by decide +kernel
theorem dX2_append_1 : decode cX2_append 1 = .ok (.getfield 27, 3) := by decide +kernel
theorem dX2_append_4 : decode cX2_append 4 = .ok (.bipush 9, 2) := by decide +kernel
theorem dX2_append_6 : decode cX2_append 6 = .ok (.if_icmp .ge 33, 3) := by decide +kernel
theorem dX2_append_9 : decode cX2_append 9 = .ok (.aload_n 0, 1) := by decide +kernel
theorem dX2_append_10 : decode cX2_append 10 = .ok (.getfield 9, 3) := by decide +kernel
theorem dX2_append_13 : decode cX2_append 13 = .ok (.aload_n 0, 1) := by decide +kernel
theorem dX2_append_14 : decode cX2_append 14 = .ok (.getfield 27, 3) := by decide +kernel
theorem dX2_append_17 : decode cX2_append 17 = .ok (.iload_n 1, 1) := by decide +kernel
theorem dX2_append_18 : decode cX2_append 18 = .ok (.iastore, 1) := by decide +kernel
theorem dX2_append_19 : decode cX2_append 19 = .ok (.aload_n 0, 1) := by decide +kernel
theorem dX2_append_20 : decode cX2_append 20 = .ok (.getfield 15, 3) := by decide +kernel
theorem dX2_append_23 : decode cX2_append 23 = .ok (.aload_n 0, 1) := by decide +kernel
theorem dX2_append_24 : decode cX2_append 24 = .ok (.getfield 27, 3) := by decide +kernel
theorem dX2_append_27 : decode cX2_append 27 = .ok (.iload_n 2, 1) := by decide +kernel
theorem dX2_append_28 : decode cX2_append 28 = .ok (.iastore, 1) := by decide +kernel
theorem dX2_append_29 : decode cX2_append 29 = .ok (.aload_n 0, 1) := by decide +kernel
theorem dX2_append_30 : decode cX2_append 30 = .ok (.dup, 1) := by decide +kernel
theorem dX2_append_31 : decode cX2_append 31 = .ok (.getfield 27, 3) := by decide +kernel
theorem dX2_append_34 : decode cX2_append 34 = .ok (.iconst 1, 1) := by decide +kernel
theorem dX2_append_35 : decode cX2_append 35 = .ok (.iadd, 1) := by decide +kernel
theorem dX2_append_36 : decode cX2_append 36 = .ok (.putfield 27, 3) := by decide +kernel
theorem dX2_append_39 : decode cX2_append 39 = .ok (.return_, 1) := by decide +kernel
theorem dX2_remove_0 : decode cX2_remove 0 = .ok (.iload_n 1, 1) := by decide +kernel
theorem dX2_remove_1 : decode cX2_remove 1 = .ok (.istore_n 2, 1) := by decide +kernel
theorem dX2_remove_2 : decode cX2_remove 2 = .ok (.iload_n 2, 1) := by decide +kernel
theorem dX2_remove_3 : decode cX2_remove 3 = .ok (.aload_n 0, 1) := by decide +kernel
theorem dX2_remove_4 : decode cX2_remove 4 = .ok (.getfield 27, 3) := by decide +kernel
theorem dX2_remove_7 : decode cX2_remove 7 = .ok (.iconst 1, 1) := by decide +kernel
theorem dX2_remove_8 : decode cX2_remove 8 = .ok (.isub, 1) := by decide +kernel
theorem dX2_remove_9 : decode cX2_remove 9 = .ok (.if_icmp .ge 37, 3) := by decide +kernel
theorem dX2_remove_12 : decode cX2_remove 12 = .ok (.aload_n 0, 1) := by decide +kernel
theorem dX2_remove_13 : decode cX2_remove 13 = .ok (.getfield 9, 3) := by decide +kernel
theorem dX2_remove_16 : decode cX2_remove 16 = .ok (.iload_n 2, 1) := by decide +kernel
theorem dX2_remove_17 : decode cX2_remove 17 = .ok (.aload_n 0, 1) := by decide +kernel
theorem dX2_remove_18 : decode cX2_remove 18 = .ok (.getfield 9, 3) := by decide +kernel
theorem dX2_remove_21 : decode cX2_remove 21 = .ok (.iload_n 2, 1) := by decide +kernel
theorem dX2_remove_22 : decode cX2_remove 22 = .ok (.iconst 1, 1) := by decide +kernel
theorem dX2_remove_23 : decode cX2_remove 23 = .ok (.iadd, 1) := by decide +kernel
theorem dX2_remove_24 : decode cX2_remove 24 = .ok (.iaload, 1) := by decide +kernel
theorem dX2_remove_25 : decode cX2_remove 25 = .ok (.iastore, 1) := by decide +kernel
theorem dX2_remove_26 : decode cX2_remove 26 = .ok (.aload_n 0, 1) := by decide +kernel
theorem dX2_remove_27 : decode cX2_remove 27 = .ok (.getfield 15, 3) := by decide +kernel
theorem dX2_remove_30 : decode cX2_remove 30 = .ok (.iload_n 2, 1) := by decide +kernel
theorem dX2_remove_31 : decode cX2_remove 31 = .ok (.aload_n 0, 1) := by decide +kernel
theorem dX2_remove_32 : decode cX2_remove 32 = .ok (.getfield 15, 3) := by decide +kernel
theorem dX2_remove_35 : decode cX2_remove 35 = .ok (.iload_n 2, 1) := by decide +kernel
theorem dX2_remove_36 : decode cX2_remove 36 = .ok (.iconst 1, 1) := by decide +kernel
theorem dX2_remove_37 : decode cX2_remove 37 = .ok (.iadd, 1) := by decide +kernel
theorem dX2_remove_38 : decode cX2_remove 38 = .ok (.iaload, 1) := by decide +kernel
theorem dX2_remove_39 : decode cX2_remove 39 = .ok (.iastore, 1) := by decide +kernel
theorem dX2_remove_40 : decode cX2_remove 40 = .ok (.iinc 2 1, 3) := by decide +kernel
theorem dX2_remove_43 : decode cX2_remove 43 = .ok (.goto (-41), 3) := by decide +kernel
theorem dX2_remove_46 : decode cX2_remove 46 = .ok (.aload_n 0, 1) := by decide +kernel
theorem dX2_remove_47 : decode cX2_remove 47 = .ok (.dup, 1) := by decide +kernel
theorem dX2_remove_48 : decode cX2_remove 48 = .ok (.getfield 27, 3) := by decide +kernel
theorem dX2_remove_51 : decode cX2_remove 51 = .ok (.iconst 1, 1) := by decide +kernel
theorem dX2_remove_52 : decode cX2_remove 52 = .ok (.isub, 1) := by decide +kernel
theorem dX2_remove_53 : decode cX2_remove 53 = .ok (.putfield 27, 3) := by decide +kernel
theorem dX2_remove_56 : decode cX2_remove 56 = .ok (.return_, 1) := by decide +kernel
