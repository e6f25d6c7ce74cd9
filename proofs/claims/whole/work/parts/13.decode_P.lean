theorem d_P_init_0 : decode b_P_init 0 = .ok (.aload_n 0, 1) := by decide +kernel
theorem d_P_init_1 : decode b_P_init 1 = .ok (.invokespecial 3, 3) := by decide +kernel
theorem d_P_init_4 : decode b_P_init 4 = .ok (.aload_n 0, 1) := by decide +kernel
theorem d_P_init_5 : decode b_P_init 5 = .ok (.bipush 33, 2) := by decide +kernel
theorem d_P_init_7 : decode b_P_init 7 = .ok (.newarray .int, 2) := by decide +kernel
theorem d_P_init_9 : decode b_P_init 9 = .ok (.putfield 9, 3) := by decide +kernel
theorem d_P_init_12 : decode b_P_init 12 = .ok (.return_, 1) := by decide +kernel
theorem d_P_start_0 : decode b_P_start 0 = .ok (.aload_n 0, 1) := by decide +kernel
theorem d_P_start_1 : decode b_P_start 1 = .ok (.iload_n 1, 1) := by decide +kernel
theorem d_P_start_2 : decode b_P_start 2 = .ok (.putfield 15, 3) := by decide +kernel
theorem d_P_start_5 : decode b_P_start 5 = .ok (.aload_n 0, 1) := by decide +kernel
theorem d_P_start_6 : decode b_P_start 6 = .ok (.iconst 0, 1) := by decide +kernel
theorem d_P_start_7 : decode b_P_start 7 = .ok (.putfield 19, 3) := by decide +kernel
theorem d_P_start_10 : decode b_P_start 10 = .ok (.return_, 1) := by decide +kernel
theorem d_P_add_0 : decode b_P_add 0 = .ok (.aload_n 0, 1) := by decide +kernel
theorem d_P_add_1 : decode b_P_add 1 = .ok (.getfield 19, 3) := by decide +kernel
theorem d_P_add_4 : decode b_P_add 4 = .ok (.bipush 33, 2) := by decide +kernel
theorem d_P_add_6 : decode b_P_add 6 = .ok (.if_icmp .ge 23, 3) := by decide +kernel
theorem d_P_add_9 : decode b_P_add 9 = .ok (.aload_n 0, 1) := by decide +kernel
theorem d_P_add_10 : decode b_P_add 10 = .ok (.getfield 9, 3) := by decide +kernel
theorem d_P_add_13 : decode b_P_add 13 = .ok (.aload_n 0, 1) := by decide +kernel
theorem d_P_add_14 : decode b_P_add 14 = .ok (.getfield 19, 3) := by decide +kernel
theorem d_P_add_17 : decode b_P_add 17 = .ok (.iload_n 1, 1) := by decide +kernel
theorem d_P_add_18 : decode b_P_add 18 = .ok (.iastore, 1) := by decide +kernel
theorem d_P_add_19 : decode b_P_add 19 = .ok (.aload_n 0, 1) := by decide +kernel
theorem d_P_add_20 : decode b_P_add 20 = .ok (.dup, 1) := by decide +kernel
theorem d_P_add_21 : decode b_P_add 21 = .ok (.getfield 19, 3) := by decide +kernel
theorem d_P_add_24 : decode b_P_add 24 = .ok (.iconst 1, 1) := by decide +kernel
theorem d_P_add_25 : decode b_P_add 25 = .ok (.iadd, 1) := by decide +kernel
theorem d_P_add_26 : decode b_P_add 26 = .ok (.putfield 19, 3) := by decide +kernel
theorem d_P_add_29 : decode b_P_add 29 = .ok (.return_, 1) := by decide +kernel
