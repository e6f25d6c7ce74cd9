theorem d_M_live_5 : decode b_M_live 5 = .ok (.iaload, 1) := by decide +kernel
theorem d_M_live_6 : decode b_M_live 6 = .ok (.iconst 1, 1) := by decide +kernel
theorem d_M_live_7 : decode b_M_live 7 = .ok (.if_icmp .eq 13, 3) := by decide +kernel
theorem d_M_live_10 : decode b_M_live 10 = .ok (.aload_n 0, 1) := by decide +kernel
theorem d_M_live_11 : decode b_M_live 11 = .ok (.getfield 62, 3) := by decide +kernel
theorem d_M_live_14 : decode b_M_live 14 = .ok (.iload_n 1, 1) := by decide +kernel
theorem d_M_live_15 : decode b_M_live 15 = .ok (.iaload, 1) := by decide +kernel
theorem d_M_live_16 : decode b_M_live 16 = .ok (.iconst 2, 1) := by decide +kernel
theorem d_M_live_17 : decode b_M_live 17 = .ok (.if_icmp .ne 7, 3) := by decide +kernel
theorem d_M_live_20 : decode b_M_live 20 = .ok (.iconst 1, 1) := by decide +kernel
theorem d_M_live_21 : decode b_M_live 21 = .ok (.goto 4, 3) := by decide +kernel
theorem d_M_live_24 : decode b_M_live 24 = .ok (.iconst 0, 1) := by decide +kernel
theorem d_M_live_25 : decode b_M_live 25 = .ok (.ireturn, 1) := by decide +kernel
theorem d_M_lives_0 : decode b_M_lives 0 = .ok (.iconst 0, 1) := by decide +kernel
theorem d_M_lives_1 : decode b_M_lives 1 = .ok (.istore_n 1, 1) := by decide +kernel
theorem d_M_lives_2 : decode b_M_lives 2 = .ok (.iconst 0, 1) := by decide +kernel
theorem d_M_lives_3 : decode b_M_lives 3 = .ok (.istore_n 2, 1) := by decide +kernel
theorem d_M_lives_4 : decode b_M_lives 4 = .ok (.iload_n 2, 1) := by decide +kernel
theorem d_M_lives_5 : decode b_M_lives 5 = .ok (.aload_n 0, 1) := by decide +kernel
theorem d_M_lives_6 : decode b_M_lives 6 = .ok (.getfield 147, 3) := by decide +kernel
theorem d_M_lives_9 : decode b_M_lives 9 = .ok (.if_icmp .ge 25, 3) := by decide +kernel
theorem d_M_lives_12 : decode b_M_lives 12 = .ok (.iload_n 1, 1) := by decide +kernel
theorem d_M_lives_13 : decode b_M_lives 13 = .ok (.aload_n 0, 1) := by decide +kernel
theorem d_M_lives_14 : decode b_M_lives 14 = .ok (.iload_n 2, 1) := by decide +kernel
theorem d_M_lives_15 : decode b_M_lives 15 = .ok (.invokevirtual 150, 3) := by decide +kernel
theorem d_M_lives_18 : decode b_M_lives 18 = .ok (.ifCond .eq 7, 3) := by decide +kernel
theorem d_M_lives_21 : decode b_M_lives 21 = .ok (.iconst 1, 1) := by decide +kernel
theorem d_M_lives_22 : decode b_M_lives 22 = .ok (.goto 4, 3) := by decide +kernel
theorem d_M_lives_25 : decode b_M_lives 25 = .ok (.iconst 0, 1) := by decide +kernel
theorem d_M_lives_26 : decode b_M_lives 26 = .ok (.iadd, 1) := by decide +kernel
theorem d_M_lives_27 : decode b_M_lives 27 = .ok (.istore_n 1, 1) := by decide +kernel
theorem d_M_lives_28 : decode b_M_lives 28 = .ok (.iinc 2 1, 3) := by decide +kernel
theorem d_M_lives_31 : decode b_M_lives 31 = .ok (.goto (-27), 3) := by decide +kernel
theorem d_M_lives_34 : decode b_M_lives 34 = .ok (.iload_n 1, 1) := by decide +kernel
theorem d_M_lives_35 : decode b_M_lives 35 = .ok (.ireturn, 1) := by decide +kernel
theorem d_M_full_0 : decode b_M_full 0 = .ok (.aload_n 0, 1) := by decide +kernel
theorem d_M_full_1 : decode b_M_full 1 = .ok (.getfield 118, 3) := by decide +kernel
theorem d_M_full_4 : decode b_M_full 4 = .ok (.aload_n 0, 1) := by decide +kernel
theorem d_M_full_5 : decode b_M_full 5 = .ok (.invokevirtual 153, 3) := by decide +kernel
theorem d_M_full_8 : decode b_M_full 8 = .ok (.iadd, 1) := by decide +kernel
theorem d_M_full_9 : decode b_M_full 9 = .ok (.aload_n 0, 1) := by decide +kernel
theorem d_M_full_10 : decode b_M_full 10 = .ok (.invokevirtual 156, 3) := by decide +kernel
theorem d_M_full_13 : decode b_M_full 13 = .ok (.iadd, 1) := by decide +kernel
theorem d_M_full_14 : decode b_M_full 14 = .ok (.iconst 2, 1) := by decide +kernel
theorem d_M_full_15 : decode b_M_full 15 = .ok (.iadd, 1) := by decide +kernel
theorem d_M_full_16 : decode b_M_full 16 = .ok (.sipush 300, 3) := by decide +kernel
theorem d_M_full_19 : decode b_M_full 19 = .ok (.if_icmp .le 7, 3) := by decide +kernel
theorem d_M_full_22 : decode b_M_full 22 = .ok (.iconst 1, 1) := by decide +kernel
theorem d_M_full_23 : decode b_M_full 23 = .ok (.goto 4, 3) := by decide +kernel
theorem d_M_full_26 : decode b_M_full 26 = .ok (.iconst 0, 1) := by decide +kernel
theorem d_M_full_27 : decode b_M_full 27 = .ok (.ireturn, 1) := by decide +kernel
theorem d_M_is_0 : decode b_M_is 0 = .ok (.iload_n 1, 1) := by decide +kernel
theorem d_M_is_1 : decode b_M_is 1 = .ok (.ifCond .lt 15, 3) := by decide +kernel
theorem d_M_is_4 : decode b_M_is 4 = .ok (.iload_n 1, 1) := by decide +kernel
theorem d_M_is_5 : decode b_M_is 5 = .ok (.aload_n 0, 1) := by decide +kernel
theorem d_M_is_6 : decode b_M_is 6 = .ok (.getfield 147, 3) := by decide +kernel
theorem d_M_is_9 : decode b_M_is 9 = .ok (.if_icmp .ge 7, 3) := by decide +kernel
theorem d_M_is_12 : decode b_M_is 12 = .ok (.iconst 1, 1) := by decide +kernel
theorem d_M_is_13 : decode b_M_is 13 = .ok (.goto 4, 3) := by decide +kernel
theorem d_M_is_16 : decode b_M_is 16 = .ok (.iconst 0, 1) := by decide +kernel
theorem d_M_is_17 : decode b_M_is 17 = .ok (.ireturn, 1) := by decide +kernel
theorem d_M_active_0 : decode b_M_active 0 = .ok (.aload_n 0, 1) := by decide +kernel
theorem d_M_active_1 : decode b_M_active 1 = .ok (.iload_n 1, 1) := by decide +kernel
theorem d_M_active_2 : decode b_M_active 2 = .ok (.invokevirtual 159, 3) := by decide +kernel
theorem d_M_active_5 : decode b_M_active 5 = .ok (.ifCond .eq 17, 3) := by decide +kernel
theorem d_M_active_8 : decode b_M_active 8 = .ok (.aload_n 0, 1) := by decide +kernel
theorem d_M_active_9 : decode b_M_active 9 = .ok (.getfield 62, 3) := by decide +kernel
theorem d_M_active_12 : decode b_M_active 12 = .ok (.iload_n 1, 1) := by decide +kernel
theorem d_M_active_13 : decode b_M_active 13 = .ok (.iaload, 1) := by decide +kernel
theorem d_M_active_14 : decode b_M_active 14 = .ok (.iconst 1, 1) := by decide +kernel
theorem d_M_active_15 : decode b_M_active 15 = .ok (.if_icmp .ne 7, 3) := by decide +kernel
theorem d_M_active_18 : decode b_M_active 18 = .ok (.iconst 1, 1) := by decide +kernel
theorem d_M_active_19 : decode b_M_active 19 = .ok (.goto 4, 3) := by decide +kernel
theorem d_M_active_22 : decode b_M_active 22 = .ok (.iconst 0, 1) := by decide +kernel
theorem d_M_active_23 : decode b_M_active 23 = .ok (.ireturn, 1) := by decide +kernel
theorem d_M_above_0 : decode b_M_above 0 = .ok (.iconst 0, 1) := by decide +kernel
theorem d_M_above_1 : decode b_M_above 1 = .ok (.istore_n 3, 1) := by decide +kernel
theorem d_M_above_2 : decode b_M_above 2 = .ok (.aload_n 0, 1) := by decide +kernel
theorem d_M_above_3 : decode b_M_above 3 = .ok (.getfield 65, 3) := by decide +kernel
theorem d_M_above_6 : decode b_M_above 6 = .ok (.iload_n 2, 1) := by decide +kernel
theorem d_M_above_7 : decode b_M_above 7 = .ok (.iaload, 1) := by decide +kernel
theorem d_M_above_8 : decode b_M_above 8 = .ok (.istore 4, 2) := by decide +kernel
theorem d_M_above_10 : decode b_M_above 10 = .ok (.iconst 0, 1) := by decide +kernel
theorem d_M_above_11 : decode b_M_above 11 = .ok (.istore 5, 2) := by decide +kernel
theorem d_M_above_13 : decode b_M_above 13 = .ok (.iload 5, 2) := by decide +kernel
theorem d_M_above_15 : decode b_M_above 15 = .ok (.iconst 4, 1) := by decide +kernel
theorem d_M_above_16 : decode b_M_above 16 = .ok (.if_icmp .ge 39, 3) := by decide +kernel
theorem d_M_above_19 : decode b_M_above 19 = .ok (.iload 4, 2) := by decide +kernel
theorem d_M_above_21 : decode b_M_above 21 = .ok (.ifCond .lt 34, 3) := by decide +kernel
theorem d_M_above_24 : decode b_M_above 24 = .ok (.iload_n 3, 1) := by decide +kernel
theorem d_M_above_25 : decode b_M_above 25 = .ok (.ifCond .ne 9, 3) := by decide +kernel
theorem d_M_above_28 : decode b_M_above 28 = .ok (.iload 4, 2) := by decide +kernel
theorem d_M_above_30 : decode b_M_above 30 = .ok (.iload_n 1, 1) := by decide +kernel
theorem d_M_above_31 : decode b_M_above 31 = .ok (.if_icmp .ne 7, 3) := by decide +kernel
theorem d_M_above_34 : decode b_M_above 34 = .ok (.iconst 1, 1) := by decide +kernel
theorem d_M_above_35 : decode b_M_above 35 = .ok (.goto 4, 3) := by decide +kernel
theorem d_M_above_38 : decode b_M_above 38 = .ok (.iconst 0, 1) := by decide +kernel
theorem d_M_above_39 : decode b_M_above 39 = .ok (.istore_n 3, 1) := by decide +kernel
theorem d_M_above_40 : decode b_M_above 40 = .ok (.aload_n 0, 1) := by decide +kernel
theorem d_M_above_41 : decode b_M_above 41 = .ok (.getfield 65, 3) := by decide +kernel
theorem d_M_above_44 : decode b_M_above 44 = .ok (.iload 4, 2) := by decide +kernel
theorem d_M_above_46 : decode b_M_above 46 = .ok (.iaload, 1) := by decide +kernel
theorem d_M_above_47 : decode b_M_above 47 = .ok (.istore 4, 2) := by decide +kernel
theorem d_M_above_49 : decode b_M_above 49 = .ok (.iinc 5 1, 3) := by decide +kernel
theorem d_M_above_52 : decode b_M_above 52 = .ok (.goto (-39), 3) := by decide +kernel
theorem d_M_above_55 : decode b_M_above 55 = .ok (.iload_n 3, 1) := by decide +kernel
theorem d_M_above_56 : decode b_M_above 56 = .ok (.ireturn, 1) := by decide +kernel
theorem d_M_busy_0 : decode b_M_busy 0 = .ok (.iconst 0, 1) := by decide +kernel
theorem d_M_busy_1 : decode b_M_busy 1 = .ok (.istore_n 2, 1) := by decide +kernel
theorem d_M_busy_2 : decode b_M_busy 2 = .ok (.iconst 0, 1) := by decide +kernel
theorem d_M_busy_3 : decode b_M_busy 3 = .ok (.istore_n 3, 1) := by decide +kernel
theorem d_M_busy_4 : decode b_M_busy 4 = .ok (.iload_n 3, 1) := by decide +kernel
theorem d_M_busy_5 : decode b_M_busy 5 = .ok (.aload_n 0, 1) := by decide +kernel
theorem d_M_busy_6 : decode b_M_busy 6 = .ok (.getfield 147, 3) := by decide +kernel
theorem d_M_busy_9 : decode b_M_busy 9 = .ok (.if_icmp .ge 37, 3) := by decide +kernel
theorem d_M_busy_12 : decode b_M_busy 12 = .ok (.iload_n 2, 1) := by decide +kernel
theorem d_M_busy_13 : decode b_M_busy 13 = .ok (.ifCond .ne 21, 3) := by decide +kernel
theorem d_M_busy_16 : decode b_M_busy 16 = .ok (.aload_n 0, 1) := by decide +kernel
theorem d_M_busy_17 : decode b_M_busy 17 = .ok (.iload_n 3, 1) := by decide +kernel
theorem d_M_busy_18 : decode b_M_busy 18 = .ok (.invokevirtual 150, 3) := by decide +kernel
theorem d_M_busy_21 : decode b_M_busy 21 = .ok (.ifCond .eq 17, 3) := by decide +kernel
theorem d_M_busy_24 : decode b_M_busy 24 = .ok (.aload_n 0, 1) := by decide +kernel
theorem d_M_busy_25 : decode b_M_busy 25 = .ok (.getfield 65, 3) := by decide +kernel
theorem d_M_busy_28 : decode b_M_busy 28 = .ok (.iload_n 3, 1) := by decide +kernel
theorem d_M_busy_29 : decode b_M_busy 29 = .ok (.iaload, 1) := by decide +kernel
theorem d_M_busy_30 : decode b_M_busy 30 = .ok (.iload_n 1, 1) := by decide +kernel
theorem d_M_busy_31 : decode b_M_busy 31 = .ok (.if_icmp .ne 7, 3) := by decide +kernel
theorem d_M_busy_34 : decode b_M_busy 34 = .ok (.iconst 1, 1) := by decide +kernel
theorem d_M_busy_35 : decode b_M_busy 35 = .ok (.goto 4, 3) := by decide +kernel
theorem d_M_busy_38 : decode b_M_busy 38 = .ok (.iconst 0, 1) := by decide +kernel
theorem d_M_busy_39 : decode b_M_busy 39 = .ok (.istore_n 2, 1) := by decide +kernel
theorem d_M_busy_40 : decode b_M_busy 40 = .ok (.iinc 3 1, 3) := by decide +kernel
theorem d_M_busy_43 : decode b_M_busy 43 = .ok (.goto (-39), 3) := by decide +kernel
theorem d_M_busy_46 : decode b_M_busy 46 = .ok (.iload_n 2, 1) := by decide +kernel
theorem d_M_busy_47 : decode b_M_busy 47 = .ok (.ireturn, 1) := by decide +kernel
theorem d_M_depth_0 : decode b_M_depth 0 = .ok (.iconst 1, 1) := by decide +kernel
theorem d_M_depth_1 : decode b_M_depth 1 = .ok (.istore_n 2, 1) := by decide +kernel
theorem d_M_depth_2 : decode b_M_depth 2 = .ok (.aload_n 0, 1) := by decide +kernel
theorem d_M_depth_3 : decode b_M_depth 3 = .ok (.getfield 65, 3) := by decide +kernel
theorem d_M_depth_6 : decode b_M_depth 6 = .ok (.iload_n 1, 1) := by decide +kernel
theorem d_M_depth_7 : decode b_M_depth 7 = .ok (.iaload, 1) := by decide +kernel
theorem d_M_depth_8 : decode b_M_depth 8 = .ok (.istore_n 3, 1) := by decide +kernel
theorem d_M_depth_9 : decode b_M_depth 9 = .ok (.iconst 0, 1) := by decide +kernel
theorem d_M_depth_10 : decode b_M_depth 10 = .ok (.istore 4, 2) := by decide +kernel
theorem d_M_depth_12 : decode b_M_depth 12 = .ok (.iload 4, 2) := by decide +kernel
theorem d_M_depth_14 : decode b_M_depth 14 = .ok (.iconst 4, 1) := by decide +kernel
theorem d_M_depth_15 : decode b_M_depth 15 = .ok (.if_icmp .ge 23, 3) := by decide +kernel
theorem d_M_depth_18 : decode b_M_depth 18 = .ok (.iload_n 3, 1) := by decide +kernel
theorem d_M_depth_19 : decode b_M_depth 19 = .ok (.ifCond .lt 19, 3) := by decide +kernel
theorem d_M_depth_22 : decode b_M_depth 22 = .ok (.iinc 2 1, 3) := by decide +kernel
theorem d_M_depth_25 : decode b_M_depth 25 = .ok (.aload_n 0, 1) := by decide +kernel
theorem d_M_depth_26 : decode b_M_depth 26 = .ok (.getfield 65, 3) := by decide +kernel
theorem d_M_depth_29 : decode b_M_depth 29 = .ok (.iload_n 3, 1) := by decide +kernel
theorem d_M_depth_30 : decode b_M_depth 30 = .ok (.iaload, 1) := by decide +kernel
theorem d_M_depth_31 : decode b_M_depth 31 = .ok (.istore_n 3, 1) := by decide +kernel
theorem d_M_depth_32 : decode b_M_depth 32 = .ok (.iinc 4 1, 3) := by decide +kernel
theorem d_M_depth_35 : decode b_M_depth 35 = .ok (.goto (-23), 3) := by decide +kernel
theorem d_M_depth_38 : decode b_M_depth 38 = .ok (.iload_n 2, 1) := by decide +kernel
theorem d_M_depth_39 : decode b_M_depth 39 = .ok (.ireturn, 1) := by decide +kernel
theorem d_M_begin_0 : decode b_M_begin 0 = .ok (.iload_n 1, 1) := by decide +kernel
theorem d_M_begin_1 : decode b_M_begin 1 = .ok (.iconst (-1), 1) := by decide +kernel
theorem d_M_begin_2 : decode b_M_begin 2 = .ok (.if_icmp .eq 11, 3) := by decide +kernel
theorem d_M_begin_5 : decode b_M_begin 5 = .ok (.aload_n 0, 1) := by decide +kernel
theorem d_M_begin_6 : decode b_M_begin 6 = .ok (.iload_n 1, 1) := by decide +kernel
theorem d_M_begin_7 : decode b_M_begin 7 = .ok (.invokevirtual 162, 3) := by decide +kernel
theorem d_M_begin_10 : decode b_M_begin 10 = .ok (.ifCond .eq 26, 3) := by decide +kernel
theorem d_M_begin_13 : decode b_M_begin 13 = .ok (.aload_n 0, 1) := by decide +kernel
theorem d_M_begin_14 : decode b_M_begin 14 = .ok (.getfield 147, 3) := by decide +kernel
theorem d_M_begin_17 : decode b_M_begin 17 = .ok (.bipush 60, 2) := by decide +kernel
theorem d_M_begin_19 : decode b_M_begin 19 = .ok (.if_icmp .eq 17, 3) := by decide +kernel
theorem d_M_begin_22 : decode b_M_begin 22 = .ok (.iload_n 1, 1) := by decide +kernel
theorem d_M_begin_23 : decode b_M_begin 23 = .ok (.iconst (-1), 1) := by decide +kernel
theorem d_M_begin_24 : decode b_M_begin 24 = .ok (.if_icmp .eq 14, 3) := by decide +kernel
theorem d_M_begin_27 : decode b_M_begin 27 = .ok (.aload_n 0, 1) := by decide +kernel
theorem d_M_begin_28 : decode b_M_begin 28 = .ok (.iload_n 1, 1) := by decide +kernel
theorem d_M_begin_29 : decode b_M_begin 29 = .ok (.invokevirtual 165, 3) := by decide +kernel
theorem d_M_begin_32 : decode b_M_begin 32 = .ok (.iconst 4, 1) := by decide +kernel
theorem d_M_begin_33 : decode b_M_begin 33 = .ok (.if_icmp .lt 5, 3) := by decide +kernel
theorem d_M_begin_36 : decode b_M_begin 36 = .ok (.iconst (-1), 1) := by decide +kernel
theorem d_M_begin_37 : decode b_M_begin 37 = .ok (.ireturn, 1) := by decide +kernel
theorem d_M_begin_38 : decode b_M_begin 38 = .ok (.aload_n 0, 1) := by decide +kernel
theorem d_M_begin_39 : decode b_M_begin 39 = .ok (.invokevirtual 168, 3) := by decide +kernel
theorem d_M_begin_42 : decode b_M_begin 42 = .ok (.ifCond .eq 6, 3) := by decide +kernel
theorem d_M_begin_45 : decode b_M_begin 45 = .ok (.bipush (-5), 2) := by decide +kernel
theorem d_M_begin_47 : decode b_M_begin 47 = .ok (.ireturn, 1) := by decide +kernel
theorem d_M_begin_48 : decode b_M_begin 48 = .ok (.aload_n 0, 1) := by decide +kernel
theorem d_M_begin_49 : decode b_M_begin 49 = .ok (.getfield 62, 3) := by decide +kernel
theorem d_M_begin_52 : decode b_M_begin 52 = .ok (.aload_n 0, 1) := by decide +kernel
theorem d_M_begin_53 : decode b_M_begin 53 = .ok (.getfield 147, 3) := by decide +kernel
theorem d_M_begin_56 : decode b_M_begin 56 = .ok (.iconst 1, 1) := by decide +kernel
theorem d_M_begin_57 : decode b_M_begin 57 = .ok (.iastore, 1) := by decide +kernel
theorem d_M_begin_58 : decode b_M_begin 58 = .ok (.aload_n 0, 1) := by decide +kernel
theorem d_M_begin_59 : decode b_M_begin 59 = .ok (.getfield 65, 3) := by decide +kernel
theorem d_M_begin_62 : decode b_M_begin 62 = .ok (.aload_n 0, 1) := by decide +kernel
theorem d_M_begin_63 : decode b_M_begin 63 = .ok (.getfield 147, 3) := by decide +kernel
theorem d_M_begin_66 : decode b_M_begin 66 = .ok (.iload_n 1, 1) := by decide +kernel
theorem d_M_begin_67 : decode b_M_begin 67 = .ok (.iastore, 1) := by decide +kernel
theorem d_M_begin_68 : decode b_M_begin 68 = .ok (.aload_n 0, 1) := by decide +kernel
theorem d_M_begin_69 : decode b_M_begin 69 = .ok (.iconst 1, 1) := by decide +kernel
theorem d_M_begin_70 : decode b_M_begin 70 = .ok (.aload_n 0, 1) := by decide +kernel
theorem d_M_begin_71 : decode b_M_begin 71 = .ok (.getfield 147, 3) := by decide +kernel
theorem d_M_begin_74 : decode b_M_begin 74 = .ok (.iload_n 1, 1) := by decide +kernel
theorem d_M_begin_75 : decode b_M_begin 75 = .ok (.invokevirtual 121, 3) := by decide +kernel
theorem d_M_begin_78 : decode b_M_begin 78 = .ok (.istore_n 2, 1) := by decide +kernel
theorem d_M_begin_79 : decode b_M_begin 79 = .ok (.aload_n 0, 1) := by decide +kernel
theorem d_M_begin_80 : decode b_M_begin 80 = .ok (.getfield 68, 3) := by decide +kernel
theorem d_M_begin_83 : decode b_M_begin 83 = .ok (.aload_n 0, 1) := by decide +kernel
theorem d_M_begin_84 : decode b_M_begin 84 = .ok (.getfield 147, 3) := by decide +kernel
theorem d_M_begin_87 : decode b_M_begin 87 = .ok (.aload_n 0, 1) := by decide +kernel
theorem d_M_begin_88 : decode b_M_begin 88 = .ok (.invokevirtual 128, 3) := by decide +kernel
theorem d_M_begin_91 : decode b_M_begin 91 = .ok (.iastore, 1) := by decide +kernel
theorem d_M_begin_92 : decode b_M_begin 92 = .ok (.aload_n 0, 1) := by decide +kernel
theorem d_M_begin_93 : decode b_M_begin 93 = .ok (.dup, 1) := by decide +kernel
theorem d_M_begin_94 : decode b_M_begin 94 = .ok (.getfield 147, 3) := by decide +kernel
theorem d_M_begin_97 : decode b_M_begin 97 = .ok (.iconst 1, 1) := by decide +kernel
theorem d_M_begin_98 : decode b_M_begin 98 = .ok (.iadd, 1) := by decide +kernel
theorem d_M_begin_99 : decode b_M_begin 99 = .ok (.putfield 147, 3) := by decide +kernel
theorem d_M_begin_102 : decode b_M_begin 102 = .ok (.aload_n 0, 1) := by decide +kernel
theorem d_M_begin_103 : decode b_M_begin 103 = .ok (.getfield 41, 3) := by decide +kernel
theorem d_M_begin_106 : decode b_M_begin 106 = .ok (.iload_n 2, 1) := by decide +kernel
theorem d_M_begin_107 : decode b_M_begin 107 = .ok (.iaload, 1) := by decide +kernel
theorem d_M_begin_108 : decode b_M_begin 108 = .ok (.ireturn, 1) := by decide +kernel
theorem d_M_next_0 : decode b_M_next 0 = .ok (.iload_n 1, 1) := by decide +kernel
theorem d_M_next_1 : decode b_M_next 1 = .ok (.iconst 1, 1) := by decide +kernel
theorem d_M_next_2 : decode b_M_next 2 = .ok (.iadd, 1) := by decide +kernel
theorem d_M_next_3 : decode b_M_next 3 = .ok (.istore_n 2, 1) := by decide +kernel
theorem d_M_next_4 : decode b_M_next 4 = .ok (.iload_n 2, 1) := by decide +kernel
theorem d_M_next_5 : decode b_M_next 5 = .ok (.bipush 32, 2) := by decide +kernel
theorem d_M_next_7 : decode b_M_next 7 = .ok (.if_icmp .ge 17, 3) := by decide +kernel
theorem d_M_next_10 : decode b_M_next 10 = .ok (.aload_n 0, 1) := by decide +kernel
theorem d_M_next_11 : decode b_M_next 11 = .ok (.iload_n 2, 1) := by decide +kernel
theorem d_M_next_12 : decode b_M_next 12 = .ok (.invokevirtual 172, 3) := by decide +kernel
theorem d_M_next_15 : decode b_M_next 15 = .ok (.ifCond .ne 9, 3) := by decide +kernel
theorem d_M_next_18 : decode b_M_next 18 = .ok (.iinc 2 1, 3) := by decide +kernel
theorem d_M_next_21 : decode b_M_next 21 = .ok (.goto (-17), 3) := by decide +kernel
theorem d_M_next_24 : decode b_M_next 24 = .ok (.iload_n 2, 1) := by decide +kernel
theorem d_M_next_25 : decode b_M_next 25 = .ok (.ireturn, 1) := by decide +kernel
theorem d_M_want_0 : decode b_M_want 0 = .ok (.aload_n 0, 1) := by decide +kernel
theorem d_M_want_1 : decode b_M_want 1 = .ok (.getfield 83, 3) := by decide +kernel
theorem d_M_want_4 : decode b_M_want 4 = .ok (.aload_n 0, 1) := by decide +kernel
theorem d_M_want_5 : decode b_M_want 5 = .ok (.getfield 175, 3) := by decide +kernel
theorem d_M_want_8 : decode b_M_want 8 = .ok (.iload_n 1, 1) := by decide +kernel
theorem d_M_want_9 : decode b_M_want 9 = .ok (.iastore, 1) := by decide +kernel
theorem d_M_want_10 : decode b_M_want 10 = .ok (.aload_n 0, 1) := by decide +kernel
theorem d_M_want_11 : decode b_M_want 11 = .ok (.dup, 1) := by decide +kernel
theorem d_M_want_12 : decode b_M_want 12 = .ok (.getfield 175, 3) := by decide +kernel
theorem d_M_want_15 : decode b_M_want 15 = .ok (.iconst 1, 1) := by decide +kernel
theorem d_M_want_16 : decode b_M_want 16 = .ok (.iadd, 1) := by decide +kernel
theorem d_M_want_17 : decode b_M_want 17 = .ok (.putfield 175, 3) := by decide +kernel
theorem d_M_want_20 : decode b_M_want 20 = .ok (.return_, 1) := by decide +kernel
theorem d_M_needs_0 : decode b_M_needs 0 = .ok (.aload_n 0, 1) := by decide +kernel
theorem d_M_needs_1 : decode b_M_needs 1 = .ok (.iconst 0, 1) := by decide +kernel
theorem d_M_needs_2 : decode b_M_needs 2 = .ok (.putfield 175, 3) := by decide +kernel
theorem d_M_needs_5 : decode b_M_needs 5 = .ok (.aload_n 0, 1) := by decide +kernel
theorem d_M_needs_6 : decode b_M_needs 6 = .ok (.iload_n 2, 1) := by decide +kernel
theorem d_M_needs_7 : decode b_M_needs 7 = .ok (.invokevirtual 172, 3) := by decide +kernel
theorem d_M_needs_10 : decode b_M_needs 10 = .ok (.istore 4, 2) := by decide +kernel
theorem d_M_needs_12 : decode b_M_needs 12 = .ok (.aload_n 0, 1) := by decide +kernel
theorem d_M_needs_13 : decode b_M_needs 13 = .ok (.iload_n 1, 1) := by decide +kernel
theorem d_M_needs_14 : decode b_M_needs 14 = .ok (.iconst 2, 1) := by decide +kernel
theorem d_M_needs_15 : decode b_M_needs 15 = .ok (.if_icmp .eq 13, 3) := by decide +kernel
theorem d_M_needs_18 : decode b_M_needs 18 = .ok (.iload_n 1, 1) := by decide +kernel
theorem d_M_needs_19 : decode b_M_needs 19 = .ok (.iconst 3, 1) := by decide +kernel
theorem d_M_needs_20 : decode b_M_needs 20 = .ok (.if_icmp .ne 12, 3) := by decide +kernel
theorem d_M_needs_23 : decode b_M_needs 23 = .ok (.iload 4, 2) := by decide +kernel
theorem d_M_needs_25 : decode b_M_needs 25 = .ok (.ifCond .eq 7, 3) := by decide +kernel
theorem d_M_needs_28 : decode b_M_needs 28 = .ok (.iconst 2, 1) := by decide +kernel
theorem d_M_needs_29 : decode b_M_needs 29 = .ok (.goto 4, 3) := by decide +kernel
theorem d_M_needs_32 : decode b_M_needs 32 = .ok (.iconst 1, 1) := by decide +kernel
theorem d_M_needs_33 : decode b_M_needs 33 = .ok (.putfield 178, 3) := by decide +kernel
theorem d_M_needs_36 : decode b_M_needs 36 = .ok (.iload_n 1, 1) := by decide +kernel
theorem d_M_needs_37 : decode b_M_needs 37 = .ok (.iconst 4, 1) := by decide +kernel
theorem d_M_needs_38 : decode b_M_needs 38 = .ok (.if_icmp .ne 45, 3) := by decide +kernel
theorem d_M_needs_41 : decode b_M_needs 41 = .ok (.iload_n 2, 1) := by decide +kernel
theorem d_M_needs_42 : decode b_M_needs 42 = .ok (.istore 5, 2) := by decide +kernel
theorem d_M_needs_44 : decode b_M_needs 44 = .ok (.iload 5, 2) := by decide +kernel
theorem d_M_needs_46 : decode b_M_needs 46 = .ok (.iload_n 3, 1) := by decide +kernel
theorem d_M_needs_47 : decode b_M_needs 47 = .ok (.if_icmp .gt 24, 3) := by decide +kernel
theorem d_M_needs_50 : decode b_M_needs 50 = .ok (.aload_n 0, 1) := by decide +kernel
theorem d_M_needs_51 : decode b_M_needs 51 = .ok (.iload 5, 2) := by decide +kernel
theorem d_M_needs_53 : decode b_M_needs 53 = .ok (.invokevirtual 172, 3) := by decide +kernel
theorem d_M_needs_56 : decode b_M_needs 56 = .ok (.ifCond .eq 9, 3) := by decide +kernel
theorem d_M_needs_59 : decode b_M_needs 59 = .ok (.aload_n 0, 1) := by decide +kernel
theorem d_M_needs_60 : decode b_M_needs 60 = .ok (.iload 5, 2) := by decide +kernel
theorem d_M_needs_62 : decode b_M_needs 62 = .ok (.invokevirtual 181, 3) := by decide +kernel
theorem d_M_needs_65 : decode b_M_needs 65 = .ok (.iinc 5 1, 3) := by decide +kernel
theorem d_M_needs_68 : decode b_M_needs 68 = .ok (.goto (-24), 3) := by decide +kernel
theorem d_M_needs_71 : decode b_M_needs 71 = .ok (.aload_n 0, 1) := by decide +kernel
theorem d_M_needs_72 : decode b_M_needs 72 = .ok (.aload_n 0, 1) := by decide +kernel
theorem d_M_needs_73 : decode b_M_needs 73 = .ok (.iload_n 3, 1) := by decide +kernel
theorem d_M_needs_74 : decode b_M_needs 74 = .ok (.invokevirtual 184, 3) := by decide +kernel
theorem d_M_needs_77 : decode b_M_needs 77 = .ok (.invokevirtual 181, 3) := by decide +kernel
theorem d_M_needs_80 : decode b_M_needs 80 = .ok (.goto 63, 3) := by decide +kernel
theorem d_M_needs_83 : decode b_M_needs 83 = .ok (.iload_n 1, 1) := by decide +kernel
theorem d_M_needs_84 : decode b_M_needs 84 = .ok (.iconst 1, 1) := by decide +kernel
theorem d_M_needs_85 : decode b_M_needs 85 = .ok (.if_icmp .eq 13, 3) := by decide +kernel
theorem d_M_needs_88 : decode b_M_needs 88 = .ok (.iload_n 1, 1) := by decide +kernel
theorem d_M_needs_89 : decode b_M_needs 89 = .ok (.iconst 3, 1) := by decide +kernel
theorem d_M_needs_90 : decode b_M_needs 90 = .ok (.if_icmp .ne 29, 3) := by decide +kernel
theorem d_M_needs_93 : decode b_M_needs 93 = .ok (.iload 4, 2) := by decide +kernel
theorem d_M_needs_95 : decode b_M_needs 95 = .ok (.ifCond .ne 24, 3) := by decide +kernel
theorem d_M_needs_98 : decode b_M_needs 98 = .ok (.aload_n 0, 1) := by decide +kernel
theorem d_M_needs_99 : decode b_M_needs 99 = .ok (.iload 4, 2) := by decide +kernel
theorem d_M_needs_101 : decode b_M_needs 101 = .ok (.ifCond .eq 7, 3) := by decide +kernel
theorem d_M_needs_104 : decode b_M_needs 104 = .ok (.iload_n 2, 1) := by decide +kernel
theorem d_M_needs_105 : decode b_M_needs 105 = .ok (.goto 8, 3) := by decide +kernel
theorem d_M_needs_108 : decode b_M_needs 108 = .ok (.aload_n 0, 1) := by decide +kernel
theorem d_M_needs_109 : decode b_M_needs 109 = .ok (.iload_n 2, 1) := by decide +kernel
theorem d_M_needs_110 : decode b_M_needs 110 = .ok (.invokevirtual 184, 3) := by decide +kernel
theorem d_M_needs_113 : decode b_M_needs 113 = .ok (.invokevirtual 181, 3) := by decide +kernel
theorem d_M_needs_116 : decode b_M_needs 116 = .ok (.goto 27, 3) := by decide +kernel
theorem d_M_needs_119 : decode b_M_needs 119 = .ok (.iload_n 1, 1) := by decide +kernel
theorem d_M_needs_120 : decode b_M_needs 120 = .ok (.iconst 3, 1) := by decide +kernel
theorem d_M_needs_121 : decode b_M_needs 121 = .ok (.if_icmp .eq 8, 3) := by decide +kernel
theorem d_M_needs_124 : decode b_M_needs 124 = .ok (.iload 4, 2) := by decide +kernel
theorem d_M_needs_126 : decode b_M_needs 126 = .ok (.ifCond .ne 12, 3) := by decide +kernel
theorem d_M_needs_129 : decode b_M_needs 129 = .ok (.aload_n 0, 1) := by decide +kernel
theorem d_M_needs_130 : decode b_M_needs 130 = .ok (.aload_n 0, 1) := by decide +kernel
theorem d_M_needs_131 : decode b_M_needs 131 = .ok (.iload_n 2, 1) := by decide +kernel
theorem d_M_needs_132 : decode b_M_needs 132 = .ok (.invokevirtual 184, 3) := by decide +kernel
theorem d_M_needs_135 : decode b_M_needs 135 = .ok (.invokevirtual 181, 3) := by decide +kernel
theorem d_M_needs_138 : decode b_M_needs 138 = .ok (.aload_n 0, 1) := by decide +kernel
theorem d_M_needs_139 : decode b_M_needs 139 = .ok (.iload_n 2, 1) := by decide +kernel
theorem d_M_needs_140 : decode b_M_needs 140 = .ok (.invokevirtual 181, 3) := by decide +kernel
theorem d_M_needs_143 : decode b_M_needs 143 = .ok (.return_, 1) := by decide +kernel
theorem d_M_bars_0 : decode b_M_bars 0 = .ok (.aload_n 0, 1) := by decide +kernel
theorem d_M_bars_1 : decode b_M_bars 1 = .ok (.getfield 71, 3) := by decide +kernel
theorem d_M_bars_4 : decode b_M_bars 4 = .ok (.bipush 33, 2) := by decide +kernel
theorem d_M_bars_6 : decode b_M_bars 6 = .ok (.iload_n 1, 1) := by decide +kernel
theorem d_M_bars_7 : decode b_M_bars 7 = .ok (.imul, 1) := by decide +kernel
theorem d_M_bars_8 : decode b_M_bars 8 = .ok (.iload_n 3, 1) := by decide +kernel
theorem d_M_bars_9 : decode b_M_bars 9 = .ok (.iadd, 1) := by decide +kernel
theorem d_M_bars_10 : decode b_M_bars 10 = .ok (.iaload, 1) := by decide +kernel
theorem d_M_bars_11 : decode b_M_bars 11 = .ok (.istore 5, 2) := by decide +kernel
theorem d_M_bars_13 : decode b_M_bars 13 = .ok (.iload_n 1, 1) := by decide +kernel
theorem d_M_bars_14 : decode b_M_bars 14 = .ok (.iload_n 2, 1) := by decide +kernel
theorem d_M_bars_15 : decode b_M_bars 15 = .ok (.if_icmp .eq 33, 3) := by decide +kernel
theorem d_M_bars_18 : decode b_M_bars 18 = .ok (.iload 5, 2) := by decide +kernel
theorem d_M_bars_20 : decode b_M_bars 20 = .ok (.ifCond .le 28, 3) := by decide +kernel
theorem d_M_bars_23 : decode b_M_bars 23 = .ok (.iload 4, 2) := by decide +kernel
theorem d_M_bars_25 : decode b_M_bars 25 = .ok (.iconst 2, 1) := by decide +kernel
theorem d_M_bars_26 : decode b_M_bars 26 = .ok (.if_icmp .eq 9, 3) := by decide +kernel
theorem d_M_bars_29 : decode b_M_bars 29 = .ok (.iload 5, 2) := by decide +kernel
theorem d_M_bars_31 : decode b_M_bars 31 = .ok (.iconst 2, 1) := by decide +kernel
theorem d_M_bars_32 : decode b_M_bars 32 = .ok (.if_icmp .ne 16, 3) := by decide +kernel
theorem d_M_bars_35 : decode b_M_bars 35 = .ok (.aload_n 0, 1) := by decide +kernel
theorem d_M_bars_36 : decode b_M_bars 36 = .ok (.iload_n 1, 1) := by decide +kernel
theorem d_M_bars_37 : decode b_M_bars 37 = .ok (.iload_n 2, 1) := by decide +kernel
theorem d_M_bars_38 : decode b_M_bars 38 = .ok (.invokevirtual 187, 3) := by decide +kernel
theorem d_M_bars_41 : decode b_M_bars 41 = .ok (.ifCond .ne 7, 3) := by decide +kernel
theorem d_M_bars_44 : decode b_M_bars 44 = .ok (.iconst 1, 1) := by decide +kernel
theorem d_M_bars_45 : decode b_M_bars 45 = .ok (.goto 4, 3) := by decide +kernel
theorem d_M_bars_48 : decode b_M_bars 48 = .ok (.iconst 0, 1) := by decide +kernel
theorem d_M_bars_49 : decode b_M_bars 49 = .ok (.ireturn, 1) := by decide +kernel
theorem d_M_may_0 : decode b_M_may 0 = .ok (.iconst 1, 1) := by decide +kernel
theorem d_M_may_1 : decode b_M_may 1 = .ok (.istore 4, 2) := by decide +kernel
theorem d_M_may_3 : decode b_M_may 3 = .ok (.iconst 0, 1) := by decide +kernel
theorem d_M_may_4 : decode b_M_may 4 = .ok (.istore 5, 2) := by decide +kernel
theorem d_M_may_6 : decode b_M_may 6 = .ok (.iload 5, 2) := by decide +kernel
theorem d_M_may_8 : decode b_M_may 8 = .ok (.aload_n 0, 1) := by decide +kernel
theorem d_M_may_9 : decode b_M_may 9 = .ok (.getfield 147, 3) := by decide +kernel
theorem d_M_may_12 : decode b_M_may 12 = .ok (.if_icmp .ge 33, 3) := by decide +kernel
theorem d_M_may_15 : decode b_M_may 15 = .ok (.iload 4, 2) := by decide +kernel
theorem d_M_may_17 : decode b_M_may 17 = .ok (.ifCond .eq 19, 3) := by decide +kernel
theorem d_M_may_20 : decode b_M_may 20 = .ok (.aload_n 0, 1) := by decide +kernel
theorem d_M_may_21 : decode b_M_may 21 = .ok (.iload 5, 2) := by decide +kernel
theorem d_M_may_23 : decode b_M_may 23 = .ok (.iload_n 1, 1) := by decide +kernel
theorem d_M_may_24 : decode b_M_may 24 = .ok (.iload_n 2, 1) := by decide +kernel
theorem d_M_may_25 : decode b_M_may 25 = .ok (.iload_n 3, 1) := by decide +kernel
theorem d_M_may_26 : decode b_M_may 26 = .ok (.invokevirtual 191, 3) := by decide +kernel
theorem d_M_may_29 : decode b_M_may 29 = .ok (.ifCond .ne 7, 3) := by decide +kernel
theorem d_M_may_32 : decode b_M_may 32 = .ok (.iconst 1, 1) := by decide +kernel
theorem d_M_may_33 : decode b_M_may 33 = .ok (.goto 4, 3) := by decide +kernel
theorem d_M_may_36 : decode b_M_may 36 = .ok (.iconst 0, 1) := by decide +kernel
theorem d_M_may_37 : decode b_M_may 37 = .ok (.istore 4, 2) := by decide +kernel
theorem d_M_may_39 : decode b_M_may 39 = .ok (.iinc 5 1, 3) := by decide +kernel
theorem d_M_may_42 : decode b_M_may 42 = .ok (.goto (-36), 3) := by decide +kernel
theorem d_M_may_45 : decode b_M_may 45 = .ok (.iload 4, 2) := by decide +kernel
theorem d_M_may_47 : decode b_M_may 47 = .ok (.ireturn, 1) := by decide +kernel
theorem d_M_look_0 : decode b_M_look 0 = .ok (.iconst 0, 1) := by decide +kernel
theorem d_M_look_1 : decode b_M_look 1 = .ok (.istore_n 1, 1) := by decide +kernel
theorem d_M_look_2 : decode b_M_look 2 = .ok (.iload_n 1, 1) := by decide +kernel
theorem d_M_look_3 : decode b_M_look 3 = .ok (.aload_n 0, 1) := by decide +kernel
theorem d_M_look_4 : decode b_M_look 4 = .ok (.getfield 147, 3) := by decide +kernel
theorem d_M_look_7 : decode b_M_look 7 = .ok (.if_icmp .ge 147, 3) := by decide +kernel
theorem d_M_look_10 : decode b_M_look 10 = .ok (.aload_n 0, 1) := by decide +kernel
theorem d_M_look_11 : decode b_M_look 11 = .ok (.getfield 86, 3) := by decide +kernel
theorem d_M_look_14 : decode b_M_look 14 = .ok (.iload_n 1, 1) := by decide +kernel
theorem d_M_look_15 : decode b_M_look 15 = .ok (.iconst (-1), 1) := by decide +kernel
theorem d_M_look_16 : decode b_M_look 16 = .ok (.iastore, 1) := by decide +kernel
theorem d_M_look_17 : decode b_M_look 17 = .ok (.aload_n 0, 1) := by decide +kernel
theorem d_M_look_18 : decode b_M_look 18 = .ok (.getfield 62, 3) := by decide +kernel
theorem d_M_look_21 : decode b_M_look 21 = .ok (.iload_n 1, 1) := by decide +kernel
theorem d_M_look_22 : decode b_M_look 22 = .ok (.iaload, 1) := by decide +kernel
theorem d_M_look_23 : decode b_M_look 23 = .ok (.iconst 2, 1) := by decide +kernel
theorem d_M_look_24 : decode b_M_look 24 = .ok (.if_icmp .ne 124, 3) := by decide +kernel
theorem d_M_look_27 : decode b_M_look 27 = .ok (.aload_n 0, 1) := by decide +kernel
theorem d_M_look_28 : decode b_M_look 28 = .ok (.aload_n 0, 1) := by decide +kernel
theorem d_M_look_29 : decode b_M_look 29 = .ok (.getfield 74, 3) := by decide +kernel
theorem d_M_look_32 : decode b_M_look 32 = .ok (.iload_n 1, 1) := by decide +kernel
theorem d_M_look_33 : decode b_M_look 33 = .ok (.iaload, 1) := by decide +kernel
theorem d_M_look_34 : decode b_M_look 34 = .ok (.aload_n 0, 1) := by decide +kernel
theorem d_M_look_35 : decode b_M_look 35 = .ok (.getfield 77, 3) := by decide +kernel
theorem d_M_look_38 : decode b_M_look 38 = .ok (.iload_n 1, 1) := by decide +kernel
theorem d_M_look_39 : decode b_M_look 39 = .ok (.iaload, 1) := by decide +kernel
theorem d_M_look_40 : decode b_M_look 40 = .ok (.aload_n 0, 1) := by decide +kernel
theorem d_M_look_41 : decode b_M_look 41 = .ok (.getfield 80, 3) := by decide +kernel
theorem d_M_look_44 : decode b_M_look 44 = .ok (.iload_n 1, 1) := by decide +kernel
theorem d_M_look_45 : decode b_M_look 45 = .ok (.iaload, 1) := by decide +kernel
theorem d_M_look_46 : decode b_M_look 46 = .ok (.invokevirtual 195, 3) := by decide +kernel
theorem d_M_look_49 : decode b_M_look 49 = .ok (.aload_n 0, 1) := by decide +kernel
theorem d_M_look_50 : decode b_M_look 50 = .ok (.getfield 175, 3) := by decide +kernel
theorem d_M_look_53 : decode b_M_look 53 = .ok (.iconst 1, 1) := by decide +kernel
theorem d_M_look_54 : decode b_M_look 54 = .ok (.isub, 1) := by decide +kernel
theorem d_M_look_55 : decode b_M_look 55 = .ok (.istore_n 2, 1) := by decide +kernel
theorem d_M_look_56 : decode b_M_look 56 = .ok (.iload_n 2, 1) := by decide +kernel
theorem d_M_look_57 : decode b_M_look 57 = .ok (.ifCond .lt 81, 3) := by decide +kernel
theorem d_M_look_60 : decode b_M_look 60 = .ok (.aload_n 0, 1) := by decide +kernel
theorem d_M_look_61 : decode b_M_look 61 = .ok (.getfield 71, 3) := by decide +kernel
theorem d_M_look_64 : decode b_M_look 64 = .ok (.bipush 33, 2) := by decide +kernel
theorem d_M_look_66 : decode b_M_look 66 = .ok (.iload_n 1, 1) := by decide +kernel
theorem d_M_look_67 : decode b_M_look 67 = .ok (.imul, 1) := by decide +kernel
theorem d_M_look_68 : decode b_M_look 68 = .ok (.aload_n 0, 1) := by decide +kernel
theorem d_M_look_69 : decode b_M_look 69 = .ok (.getfield 83, 3) := by decide +kernel
theorem d_M_look_72 : decode b_M_look 72 = .ok (.iload_n 2, 1) := by decide +kernel
theorem d_M_look_73 : decode b_M_look 73 = .ok (.iaload, 1) := by decide +kernel
theorem d_M_look_74 : decode b_M_look 74 = .ok (.iadd, 1) := by decide +kernel
theorem d_M_look_75 : decode b_M_look 75 = .ok (.iaload, 1) := by decide +kernel
theorem d_M_look_76 : decode b_M_look 76 = .ok (.aload_n 0, 1) := by decide +kernel
theorem d_M_look_77 : decode b_M_look 77 = .ok (.getfield 178, 3) := by decide +kernel
theorem d_M_look_80 : decode b_M_look 80 = .ok (.if_icmp .ge 25, 3) := by decide +kernel
theorem d_M_look_83 : decode b_M_look 83 = .ok (.aload_n 0, 1) := by decide +kernel
theorem d_M_look_84 : decode b_M_look 84 = .ok (.iload_n 1, 1) := by decide +kernel
theorem d_M_look_85 : decode b_M_look 85 = .ok (.aload_n 0, 1) := by decide +kernel
theorem d_M_look_86 : decode b_M_look 86 = .ok (.getfield 83, 3) := by decide +kernel
theorem d_M_look_89 : decode b_M_look 89 = .ok (.iload_n 2, 1) := by decide +kernel
theorem d_M_look_90 : decode b_M_look 90 = .ok (.iaload, 1) := by decide +kernel
theorem d_M_look_91 : decode b_M_look 91 = .ok (.aload_n 0, 1) := by decide +kernel
theorem d_M_look_92 : decode b_M_look 92 = .ok (.getfield 178, 3) := by decide +kernel
theorem d_M_look_95 : decode b_M_look 95 = .ok (.invokevirtual 199, 3) := by decide +kernel
theorem d_M_look_98 : decode b_M_look 98 = .ok (.ifCond .ne 7, 3) := by decide +kernel
theorem d_M_look_101 : decode b_M_look 101 = .ok (.iconst 1, 1) := by decide +kernel
theorem d_M_look_102 : decode b_M_look 102 = .ok (.goto 4, 3) := by decide +kernel
theorem d_M_look_105 : decode b_M_look 105 = .ok (.iconst 0, 1) := by decide +kernel
theorem d_M_look_106 : decode b_M_look 106 = .ok (.istore_n 3, 1) := by decide +kernel
theorem d_M_look_107 : decode b_M_look 107 = .ok (.aload_n 0, 1) := by decide +kernel
theorem d_M_look_108 : decode b_M_look 108 = .ok (.getfield 86, 3) := by decide +kernel
theorem d_M_look_111 : decode b_M_look 111 = .ok (.iload_n 1, 1) := by decide +kernel
theorem d_M_look_112 : decode b_M_look 112 = .ok (.iload_n 3, 1) := by decide +kernel
theorem d_M_look_113 : decode b_M_look 113 = .ok (.ifCond .eq 12, 3) := by decide +kernel
theorem d_M_look_116 : decode b_M_look 116 = .ok (.aload_n 0, 1) := by decide +kernel
theorem d_M_look_117 : decode b_M_look 117 = .ok (.getfield 83, 3) := by decide +kernel
theorem d_M_look_120 : decode b_M_look 120 = .ok (.iload_n 2, 1) := by decide +kernel
theorem d_M_look_121 : decode b_M_look 121 = .ok (.iaload, 1) := by decide +kernel
theorem d_M_look_122 : decode b_M_look 122 = .ok (.goto 9, 3) := by decide +kernel
theorem d_M_look_125 : decode b_M_look 125 = .ok (.aload_n 0, 1) := by decide +kernel
theorem d_M_look_126 : decode b_M_look 126 = .ok (.getfield 86, 3) := by decide +kernel
theorem d_M_look_129 : decode b_M_look 129 = .ok (.iload_n 1, 1) := by decide +kernel
theorem d_M_look_130 : decode b_M_look 130 = .ok (.iaload, 1) := by decide +kernel
theorem d_M_look_131 : decode b_M_look 131 = .ok (.iastore, 1) := by decide +kernel
theorem d_M_look_132 : decode b_M_look 132 = .ok (.iinc 2 (-1), 3) := by decide +kernel
theorem d_M_look_135 : decode b_M_look 135 = .ok (.goto (-79), 3) := by decide +kernel
theorem d_M_look_138 : decode b_M_look 138 = .ok (.aload_n 0, 1) := by decide +kernel
theorem d_M_look_139 : decode b_M_look 139 = .ok (.getfield 89, 3) := by decide +kernel
theorem d_M_look_142 : decode b_M_look 142 = .ok (.iload_n 1, 1) := by decide +kernel
theorem d_M_look_143 : decode b_M_look 143 = .ok (.aload_n 0, 1) := by decide +kernel
theorem d_M_look_144 : decode b_M_look 144 = .ok (.getfield 178, 3) := by decide +kernel
theorem d_M_look_147 : decode b_M_look 147 = .ok (.iastore, 1) := by decide +kernel
theorem d_M_look_148 : decode b_M_look 148 = .ok (.iinc 1 1, 3) := by decide +kernel
theorem d_M_look_151 : decode b_M_look 151 = .ok (.goto (-149), 3) := by decide +kernel
theorem d_M_look_154 : decode b_M_look 154 = .ok (.return_, 1) := by decide +kernel
theorem d_M_leads_0 : decode b_M_leads 0 = .ok (.aload_n 0, 1) := by decide +kernel
theorem d_M_leads_1 : decode b_M_leads 1 = .ok (.iload_n 1, 1) := by decide +kernel
theorem d_M_leads_2 : decode b_M_leads 2 = .ok (.invokevirtual 150, 3) := by decide +kernel
theorem d_M_leads_5 : decode b_M_leads 5 = .ok (.ifCond .eq 21, 3) := by decide +kernel
theorem d_M_leads_8 : decode b_M_leads 8 = .ok (.aload_n 0, 1) := by decide +kernel
theorem d_M_leads_9 : decode b_M_leads 9 = .ok (.iload_n 2, 1) := by decide +kernel
theorem d_M_leads_10 : decode b_M_leads 10 = .ok (.invokevirtual 150, 3) := by decide +kernel
theorem d_M_leads_13 : decode b_M_leads 13 = .ok (.ifCond .eq 13, 3) := by decide +kernel
theorem d_M_leads_16 : decode b_M_leads 16 = .ok (.aload_n 0, 1) := by decide +kernel
theorem d_M_leads_17 : decode b_M_leads 17 = .ok (.getfield 65, 3) := by decide +kernel
theorem d_M_leads_20 : decode b_M_leads 20 = .ok (.iload_n 2, 1) := by decide +kernel
theorem d_M_leads_21 : decode b_M_leads 21 = .ok (.iaload, 1) := by decide +kernel
theorem d_M_leads_22 : decode b_M_leads 22 = .ok (.iload_n 1, 1) := by decide +kernel
theorem d_M_leads_23 : decode b_M_leads 23 = .ok (.if_icmp .eq 43, 3) := by decide +kernel
theorem d_M_leads_26 : decode b_M_leads 26 = .ok (.aload_n 0, 1) := by decide +kernel
theorem d_M_leads_27 : decode b_M_leads 27 = .ok (.getfield 62, 3) := by decide +kernel
theorem d_M_leads_30 : decode b_M_leads 30 = .ok (.iload_n 1, 1) := by decide +kernel
theorem d_M_leads_31 : decode b_M_leads 31 = .ok (.iaload, 1) := by decide +kernel
theorem d_M_leads_32 : decode b_M_leads 32 = .ok (.iconst 2, 1) := by decide +kernel
theorem d_M_leads_33 : decode b_M_leads 33 = .ok (.if_icmp .ne 37, 3) := by decide +kernel
theorem d_M_leads_36 : decode b_M_leads 36 = .ok (.aload_n 0, 1) := by decide +kernel
theorem d_M_leads_37 : decode b_M_leads 37 = .ok (.getfield 86, 3) := by decide +kernel
theorem d_M_leads_40 : decode b_M_leads 40 = .ok (.iload_n 1, 1) := by decide +kernel
theorem d_M_leads_41 : decode b_M_leads 41 = .ok (.iaload, 1) := by decide +kernel
theorem d_M_leads_42 : decode b_M_leads 42 = .ok (.ifCond .lt 28, 3) := by decide +kernel
theorem d_M_leads_45 : decode b_M_leads 45 = .ok (.aload_n 0, 1) := by decide +kernel
theorem d_M_leads_46 : decode b_M_leads 46 = .ok (.iload_n 2, 1) := by decide +kernel
theorem d_M_leads_47 : decode b_M_leads 47 = .ok (.iload_n 1, 1) := by decide +kernel
theorem d_M_leads_48 : decode b_M_leads 48 = .ok (.aload_n 0, 1) := by decide +kernel
theorem d_M_leads_49 : decode b_M_leads 49 = .ok (.getfield 86, 3) := by decide +kernel
theorem d_M_leads_52 : decode b_M_leads 52 = .ok (.iload_n 1, 1) := by decide +kernel
theorem d_M_leads_53 : decode b_M_leads 53 = .ok (.iaload, 1) := by decide +kernel
theorem d_M_leads_54 : decode b_M_leads 54 = .ok (.aload_n 0, 1) := by decide +kernel
theorem d_M_leads_55 : decode b_M_leads 55 = .ok (.getfield 89, 3) := by decide +kernel
theorem d_M_leads_58 : decode b_M_leads 58 = .ok (.iload_n 1, 1) := by decide +kernel
theorem d_M_leads_59 : decode b_M_leads 59 = .ok (.iaload, 1) := by decide +kernel
theorem d_M_leads_60 : decode b_M_leads 60 = .ok (.invokevirtual 191, 3) := by decide +kernel
theorem d_M_leads_63 : decode b_M_leads 63 = .ok (.ifCond .eq 7, 3) := by decide +kernel
theorem d_M_leads_66 : decode b_M_leads 66 = .ok (.iconst 1, 1) := by decide +kernel
theorem d_M_leads_67 : decode b_M_leads 67 = .ok (.goto 4, 3) := by decide +kernel
theorem d_M_leads_70 : decode b_M_leads 70 = .ok (.iconst 0, 1) := by decide +kernel
theorem d_M_leads_71 : decode b_M_leads 71 = .ok (.ireturn, 1) := by decide +kernel
theorem d_M_victim_0 : decode b_M_victim 0 = .ok (.aload_n 0, 1) := by decide +kernel
theorem d_M_victim_1 : decode b_M_victim 1 = .ok (.invokevirtual 203, 3) := by decide +kernel
theorem d_M_victim_4 : decode b_M_victim 4 = .ok (.iconst 0, 1) := by decide +kernel
theorem d_M_victim_5 : decode b_M_victim 5 = .ok (.istore_n 2, 1) := by decide +kernel
theorem d_M_victim_6 : decode b_M_victim 6 = .ok (.iload_n 2, 1) := by decide +kernel
theorem d_M_victim_7 : decode b_M_victim 7 = .ok (.aload_n 0, 1) := by decide +kernel
theorem d_M_victim_8 : decode b_M_victim 8 = .ok (.getfield 147, 3) := by decide +kernel
theorem d_M_victim_11 : decode b_M_victim 11 = .ok (.if_icmp .ge 23, 3) := by decide +kernel
theorem d_M_victim_14 : decode b_M_victim 14 = .ok (.aload_n 0, 1) := by decide +kernel
theorem d_M_victim_15 : decode b_M_victim 15 = .ok (.getfield 92, 3) := by decide +kernel
theorem d_M_victim_18 : decode b_M_victim 18 = .ok (.iload_n 2, 1) := by decide +kernel
theorem d_M_victim_19 : decode b_M_victim 19 = .ok (.iconst 0, 1) := by decide +kernel
theorem d_M_victim_20 : decode b_M_victim 20 = .ok (.bastore, 1) := by decide +kernel
theorem d_M_victim_21 : decode b_M_victim 21 = .ok (.aload_n 0, 1) := by decide +kernel
theorem d_M_victim_22 : decode b_M_victim 22 = .ok (.getfield 95, 3) := by decide +kernel
theorem d_M_victim_25 : decode b_M_victim 25 = .ok (.iload_n 2, 1) := by decide +kernel
theorem d_M_victim_26 : decode b_M_victim 26 = .ok (.iconst 0, 1) := by decide +kernel
theorem d_M_victim_27 : decode b_M_victim 27 = .ok (.bastore, 1) := by decide +kernel
theorem d_M_victim_28 : decode b_M_victim 28 = .ok (.iinc 2 1, 3) := by decide +kernel
theorem d_M_victim_31 : decode b_M_victim 31 = .ok (.goto (-25), 3) := by decide +kernel
theorem d_M_victim_34 : decode b_M_victim 34 = .ok (.iconst 1, 1) := by decide +kernel
theorem d_M_victim_35 : decode b_M_victim 35 = .ok (.istore_n 2, 1) := by decide +kernel
theorem d_M_victim_36 : decode b_M_victim 36 = .ok (.iconst 0, 1) := by decide +kernel
theorem d_M_victim_37 : decode b_M_victim 37 = .ok (.istore_n 3, 1) := by decide +kernel
theorem d_M_victim_38 : decode b_M_victim 38 = .ok (.iload_n 3, 1) := by decide +kernel
theorem d_M_victim_39 : decode b_M_victim 39 = .ok (.bipush 61, 2) := by decide +kernel
theorem d_M_victim_41 : decode b_M_victim 41 = .ok (.if_icmp .ge 213, 3) := by decide +kernel
theorem d_M_victim_44 : decode b_M_victim 44 = .ok (.iload_n 2, 1) := by decide +kernel
theorem d_M_victim_45 : decode b_M_victim 45 = .ok (.ifCond .eq 209, 3) := by decide +kernel
theorem d_M_victim_48 : decode b_M_victim 48 = .ok (.iconst 0, 1) := by decide +kernel
theorem d_M_victim_49 : decode b_M_victim 49 = .ok (.istore_n 2, 1) := by decide +kernel
theorem d_M_victim_50 : decode b_M_victim 50 = .ok (.iconst 0, 1) := by decide +kernel
theorem d_M_victim_51 : decode b_M_victim 51 = .ok (.istore 4, 2) := by decide +kernel
theorem d_M_victim_53 : decode b_M_victim 53 = .ok (.iload 4, 2) := by decide +kernel
theorem d_M_victim_55 : decode b_M_victim 55 = .ok (.aload_n 0, 1) := by decide +kernel
theorem d_M_victim_56 : decode b_M_victim 56 = .ok (.getfield 147, 3) := by decide +kernel
theorem d_M_victim_59 : decode b_M_victim 59 = .ok (.if_icmp .ge 189, 3) := by decide +kernel
theorem d_M_victim_62 : decode b_M_victim 62 = .ok (.iconst 0, 1) := by decide +kernel
theorem d_M_victim_63 : decode b_M_victim 63 = .ok (.istore 5, 2) := by decide +kernel
theorem d_M_victim_65 : decode b_M_victim 65 = .ok (.iload 5, 2) := by decide +kernel
theorem d_M_victim_67 : decode b_M_victim 67 = .ok (.aload_n 0, 1) := by decide +kernel
theorem d_M_victim_68 : decode b_M_victim 68 = .ok (.getfield 147, 3) := by decide +kernel
theorem d_M_victim_71 : decode b_M_victim 71 = .ok (.if_icmp .ge 171, 3) := by decide +kernel
theorem d_M_victim_74 : decode b_M_victim 74 = .ok (.iload 4, 2) := by decide +kernel
theorem d_M_victim_76 : decode b_M_victim 76 = .ok (.iload_n 1, 1) := by decide +kernel
theorem d_M_victim_77 : decode b_M_victim 77 = .ok (.if_icmp .eq 13, 3) := by decide +kernel
theorem d_M_victim_80 : decode b_M_victim 80 = .ok (.aload_n 0, 1) := by decide +kernel
theorem d_M_victim_81 : decode b_M_victim 81 = .ok (.getfield 92, 3) := by decide +kernel
theorem d_M_victim_84 : decode b_M_victim 84 = .ok (.iload 4, 2) := by decide +kernel
theorem d_M_victim_86 : decode b_M_victim 86 = .ok (.baload, 1) := by decide +kernel
theorem d_M_victim_87 : decode b_M_victim 87 = .ok (.ifCond .eq 28, 3) := by decide +kernel
theorem d_M_victim_90 : decode b_M_victim 90 = .ok (.aload_n 0, 1) := by decide +kernel
theorem d_M_victim_91 : decode b_M_victim 91 = .ok (.getfield 92, 3) := by decide +kernel
theorem d_M_victim_94 : decode b_M_victim 94 = .ok (.iload 5, 2) := by decide +kernel
theorem d_M_victim_96 : decode b_M_victim 96 = .ok (.baload, 1) := by decide +kernel
theorem d_M_victim_97 : decode b_M_victim 97 = .ok (.ifCond .ne 18, 3) := by decide +kernel
theorem d_M_victim_100 : decode b_M_victim 100 = .ok (.aload_n 0, 1) := by decide +kernel
theorem d_M_victim_101 : decode b_M_victim 101 = .ok (.iload 4, 2) := by decide +kernel
theorem d_M_victim_103 : decode b_M_victim 103 = .ok (.iload 5, 2) := by decide +kernel
theorem d_M_victim_105 : decode b_M_victim 105 = .ok (.invokevirtual 206, 3) := by decide +kernel
theorem d_M_victim_108 : decode b_M_victim 108 = .ok (.ifCond .eq 7, 3) := by decide +kernel
theorem d_M_victim_111 : decode b_M_victim 111 = .ok (.iconst 1, 1) := by decide +kernel
theorem d_M_victim_112 : decode b_M_victim 112 = .ok (.goto 4, 3) := by decide +kernel
theorem d_M_victim_115 : decode b_M_victim 115 = .ok (.iconst 0, 1) := by decide +kernel
theorem d_M_victim_116 : decode b_M_victim 116 = .ok (.istore 6, 2) := by decide +kernel
theorem d_M_victim_118 : decode b_M_victim 118 = .ok (.iload 5, 2) := by decide +kernel
theorem d_M_victim_120 : decode b_M_victim 120 = .ok (.iload_n 1, 1) := by decide +kernel
theorem d_M_victim_121 : decode b_M_victim 121 = .ok (.if_icmp .eq 13, 3) := by decide +kernel
theorem d_M_victim_124 : decode b_M_victim 124 = .ok (.aload_n 0, 1) := by decide +kernel
theorem d_M_victim_125 : decode b_M_victim 125 = .ok (.getfield 95, 3) := by decide +kernel
theorem d_M_victim_128 : decode b_M_victim 128 = .ok (.iload 5, 2) := by decide +kernel
theorem d_M_victim_130 : decode b_M_victim 130 = .ok (.baload, 1) := by decide +kernel
theorem d_M_victim_131 : decode b_M_victim 131 = .ok (.ifCond .eq 28, 3) := by decide +kernel
theorem d_M_victim_134 : decode b_M_victim 134 = .ok (.aload_n 0, 1) := by decide +kernel
theorem d_M_victim_135 : decode b_M_victim 135 = .ok (.getfield 95, 3) := by decide +kernel
theorem d_M_victim_138 : decode b_M_victim 138 = .ok (.iload 4, 2) := by decide +kernel
theorem d_M_victim_140 : decode b_M_victim 140 = .ok (.baload, 1) := by decide +kernel
theorem d_M_victim_141 : decode b_M_victim 141 = .ok (.ifCond .ne 18, 3) := by decide +kernel
theorem d_M_victim_144 : decode b_M_victim 144 = .ok (.aload_n 0, 1) := by decide +kernel
theorem d_M_victim_145 : decode b_M_victim 145 = .ok (.iload 4, 2) := by decide +kernel
theorem d_M_victim_147 : decode b_M_victim 147 = .ok (.iload 5, 2) := by decide +kernel
theorem d_M_victim_149 : decode b_M_victim 149 = .ok (.invokevirtual 206, 3) := by decide +kernel
theorem d_M_victim_152 : decode b_M_victim 152 = .ok (.ifCond .eq 7, 3) := by decide +kernel
theorem d_M_victim_155 : decode b_M_victim 155 = .ok (.iconst 1, 1) := by decide +kernel
theorem d_M_victim_156 : decode b_M_victim 156 = .ok (.goto 4, 3) := by decide +kernel
theorem d_M_victim_159 : decode b_M_victim 159 = .ok (.iconst 0, 1) := by decide +kernel
theorem d_M_victim_160 : decode b_M_victim 160 = .ok (.istore 7, 2) := by decide +kernel
theorem d_M_victim_162 : decode b_M_victim 162 = .ok (.aload_n 0, 1) := by decide +kernel
theorem d_M_victim_163 : decode b_M_victim 163 = .ok (.getfield 92, 3) := by decide +kernel
theorem d_M_victim_166 : decode b_M_victim 166 = .ok (.iload 5, 2) := by decide +kernel
theorem d_M_victim_168 : decode b_M_victim 168 = .ok (.aload_n 0, 1) := by decide +kernel
theorem d_M_victim_169 : decode b_M_victim 169 = .ok (.getfield 92, 3) := by decide +kernel
theorem d_M_victim_172 : decode b_M_victim 172 = .ok (.iload 5, 2) := by decide +kernel
theorem d_M_victim_174 : decode b_M_victim 174 = .ok (.baload, 1) := by decide +kernel
theorem d_M_victim_175 : decode b_M_victim 175 = .ok (.ifCond .ne 8, 3) := by decide +kernel
theorem d_M_victim_178 : decode b_M_victim 178 = .ok (.iload 6, 2) := by decide +kernel
theorem d_M_victim_180 : decode b_M_victim 180 = .ok (.ifCond .eq 7, 3) := by decide +kernel
theorem d_M_victim_183 : decode b_M_victim 183 = .ok (.iconst 1, 1) := by decide +kernel
theorem d_M_victim_184 : decode b_M_victim 184 = .ok (.goto 4, 3) := by decide +kernel
theorem d_M_victim_187 : decode b_M_victim 187 = .ok (.iconst 0, 1) := by decide +kernel
theorem d_M_victim_188 : decode b_M_victim 188 = .ok (.bastore, 1) := by decide +kernel
theorem d_M_victim_189 : decode b_M_victim 189 = .ok (.aload_n 0, 1) := by decide +kernel
theorem d_M_victim_190 : decode b_M_victim 190 = .ok (.getfield 95, 3) := by decide +kernel
theorem d_M_victim_193 : decode b_M_victim 193 = .ok (.iload 4, 2) := by decide +kernel
theorem d_M_victim_195 : decode b_M_victim 195 = .ok (.aload_n 0, 1) := by decide +kernel
theorem d_M_victim_196 : decode b_M_victim 196 = .ok (.getfield 95, 3) := by decide +kernel
theorem d_M_victim_199 : decode b_M_victim 199 = .ok (.iload 4, 2) := by decide +kernel
theorem d_M_victim_201 : decode b_M_victim 201 = .ok (.baload, 1) := by decide +kernel
theorem d_M_victim_202 : decode b_M_victim 202 = .ok (.ifCond .ne 8, 3) := by decide +kernel
theorem d_M_victim_205 : decode b_M_victim 205 = .ok (.iload 7, 2) := by decide +kernel
theorem d_M_victim_207 : decode b_M_victim 207 = .ok (.ifCond .eq 7, 3) := by decide +kernel
theorem d_M_victim_210 : decode b_M_victim 210 = .ok (.iconst 1, 1) := by decide +kernel
theorem d_M_victim_211 : decode b_M_victim 211 = .ok (.goto 4, 3) := by decide +kernel
theorem d_M_victim_214 : decode b_M_victim 214 = .ok (.iconst 0, 1) := by decide +kernel
theorem d_M_victim_215 : decode b_M_victim 215 = .ok (.bastore, 1) := by decide +kernel
theorem d_M_victim_216 : decode b_M_victim 216 = .ok (.iload_n 2, 1) := by decide +kernel
theorem d_M_victim_217 : decode b_M_victim 217 = .ok (.ifCond .ne 13, 3) := by decide +kernel
theorem d_M_victim_220 : decode b_M_victim 220 = .ok (.iload 6, 2) := by decide +kernel
theorem d_M_victim_222 : decode b_M_victim 222 = .ok (.ifCond .ne 8, 3) := by decide +kernel
theorem d_M_victim_225 : decode b_M_victim 225 = .ok (.iload 7, 2) := by decide +kernel
theorem d_M_victim_227 : decode b_M_victim 227 = .ok (.ifCond .eq 7, 3) := by decide +kernel
theorem d_M_victim_230 : decode b_M_victim 230 = .ok (.iconst 1, 1) := by decide +kernel
theorem d_M_victim_231 : decode b_M_victim 231 = .ok (.goto 4, 3) := by decide +kernel
theorem d_M_victim_234 : decode b_M_victim 234 = .ok (.iconst 0, 1) := by decide +kernel
theorem d_M_victim_235 : decode b_M_victim 235 = .ok (.istore_n 2, 1) := by decide +kernel
theorem d_M_victim_236 : decode b_M_victim 236 = .ok (.iinc 5 1, 3) := by decide +kernel
theorem d_M_victim_239 : decode b_M_victim 239 = .ok (.goto (-174), 3) := by decide +kernel
theorem d_M_victim_242 : decode b_M_victim 242 = .ok (.iinc 4 1, 3) := by decide +kernel
theorem d_M_victim_245 : decode b_M_victim 245 = .ok (.goto (-192), 3) := by decide +kernel
theorem d_M_victim_248 : decode b_M_victim 248 = .ok (.iinc 3 1, 3) := by decide +kernel
theorem d_M_victim_251 : decode b_M_victim 251 = .ok (.goto (-213), 3) := by decide +kernel
theorem d_M_victim_254 : decode b_M_victim 254 = .ok (.iconst (-1), 1) := by decide +kernel
theorem d_M_victim_255 : decode b_M_victim 255 = .ok (.istore_n 3, 1) := by decide +kernel
theorem d_M_victim_256 : decode b_M_victim 256 = .ok (.iconst 0, 1) := by decide +kernel
theorem d_M_victim_257 : decode b_M_victim 257 = .ok (.istore 4, 2) := by decide +kernel
theorem d_M_victim_259 : decode b_M_victim 259 = .ok (.iload 4, 2) := by decide +kernel
theorem d_M_victim_261 : decode b_M_victim 261 = .ok (.aload_n 0, 1) := by decide +kernel
theorem d_M_victim_262 : decode b_M_victim 262 = .ok (.getfield 147, 3) := by decide +kernel
theorem d_M_victim_265 : decode b_M_victim 265 = .ok (.if_icmp .ge 45, 3) := by decide +kernel
theorem d_M_victim_268 : decode b_M_victim 268 = .ok (.aload_n 0, 1) := by decide +kernel
theorem d_M_victim_269 : decode b_M_victim 269 = .ok (.getfield 92, 3) := by decide +kernel
theorem d_M_victim_272 : decode b_M_victim 272 = .ok (.iload_n 1, 1) := by decide +kernel
theorem d_M_victim_273 : decode b_M_victim 273 = .ok (.baload, 1) := by decide +kernel
theorem d_M_victim_274 : decode b_M_victim 274 = .ok (.ifCond .eq 36, 3) := by decide +kernel
theorem d_M_victim_277 : decode b_M_victim 277 = .ok (.aload_n 0, 1) := by decide +kernel
theorem d_M_victim_278 : decode b_M_victim 278 = .ok (.getfield 92, 3) := by decide +kernel
theorem d_M_victim_281 : decode b_M_victim 281 = .ok (.iload 4, 2) := by decide +kernel
theorem d_M_victim_283 : decode b_M_victim 283 = .ok (.baload, 1) := by decide +kernel
theorem d_M_victim_284 : decode b_M_victim 284 = .ok (.ifCond .eq 18, 3) := by decide +kernel
theorem d_M_victim_287 : decode b_M_victim 287 = .ok (.aload_n 0, 1) := by decide +kernel
theorem d_M_victim_288 : decode b_M_victim 288 = .ok (.getfield 95, 3) := by decide +kernel
theorem d_M_victim_291 : decode b_M_victim 291 = .ok (.iload 4, 2) := by decide +kernel
theorem d_M_victim_293 : decode b_M_victim 293 = .ok (.baload, 1) := by decide +kernel
theorem d_M_victim_294 : decode b_M_victim 294 = .ok (.ifCond .eq 8, 3) := by decide +kernel
theorem d_M_victim_297 : decode b_M_victim 297 = .ok (.iload 4, 2) := by decide +kernel
theorem d_M_victim_299 : decode b_M_victim 299 = .ok (.goto 4, 3) := by decide +kernel
theorem d_M_victim_302 : decode b_M_victim 302 = .ok (.iload_n 3, 1) := by decide +kernel
theorem d_M_victim_303 : decode b_M_victim 303 = .ok (.istore_n 3, 1) := by decide +kernel
theorem d_M_victim_304 : decode b_M_victim 304 = .ok (.iinc 4 1, 3) := by decide +kernel
theorem d_M_victim_307 : decode b_M_victim 307 = .ok (.goto (-48), 3) := by decide +kernel
theorem d_M_victim_310 : decode b_M_victim 310 = .ok (.iload_n 3, 1) := by decide +kernel
theorem d_M_victim_311 : decode b_M_victim 311 = .ok (.ireturn, 1) := by decide +kernel
theorem d_M_request_0 : decode b_M_request 0 = .ok (.aload_n 0, 1) := by decide +kernel
theorem d_M_request_1 : decode b_M_request 1 = .ok (.getfield 62, 3) := by decide +kernel
theorem d_M_request_4 : decode b_M_request 4 = .ok (.iload_n 1, 1) := by decide +kernel
theorem d_M_request_5 : decode b_M_request 5 = .ok (.iconst 1, 1) := by decide +kernel
theorem d_M_request_6 : decode b_M_request 6 = .ok (.iastore, 1) := by decide +kernel
theorem d_M_request_7 : decode b_M_request 7 = .ok (.aload_n 0, 1) := by decide +kernel
theorem d_M_request_8 : decode b_M_request 8 = .ok (.iload_n 2, 1) := by decide +kernel
theorem d_M_request_9 : decode b_M_request 9 = .ok (.iload_n 3, 1) := by decide +kernel
theorem d_M_request_10 : decode b_M_request 10 = .ok (.iload 4, 2) := by decide +kernel
theorem d_M_request_12 : decode b_M_request 12 = .ok (.invokevirtual 195, 3) := by decide +kernel
theorem d_M_request_15 : decode b_M_request 15 = .ok (.iconst 0, 1) := by decide +kernel
theorem d_M_request_16 : decode b_M_request 16 = .ok (.istore 5, 2) := by decide +kernel
theorem d_M_request_18 : decode b_M_request 18 = .ok (.iload 5, 2) := by decide +kernel
theorem d_M_request_20 : decode b_M_request 20 = .ok (.aload_n 0, 1) := by decide +kernel
theorem d_M_request_21 : decode b_M_request 21 = .ok (.getfield 175, 3) := by decide +kernel
theorem d_M_request_24 : decode b_M_request 24 = .ok (.if_icmp .ge 77, 3) := by decide +kernel
theorem d_M_request_27 : decode b_M_request 27 = .ok (.bipush 33, 2) := by decide +kernel
theorem d_M_request_29 : decode b_M_request 29 = .ok (.iload_n 1, 1) := by decide +kernel
theorem d_M_request_30 : decode b_M_request 30 = .ok (.imul, 1) := by decide +kernel
theorem d_M_request_31 : decode b_M_request 31 = .ok (.aload_n 0, 1) := by decide +kernel
theorem d_M_request_32 : decode b_M_request 32 = .ok (.getfield 83, 3) := by decide +kernel
theorem d_M_request_35 : decode b_M_request 35 = .ok (.iload 5, 2) := by decide +kernel
theorem d_M_request_37 : decode b_M_request 37 = .ok (.iaload, 1) := by decide +kernel
theorem d_M_request_38 : decode b_M_request 38 = .ok (.iadd, 1) := by decide +kernel
theorem d_M_request_39 : decode b_M_request 39 = .ok (.istore 6, 2) := by decide +kernel
