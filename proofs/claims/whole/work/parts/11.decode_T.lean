theorem d_T_init_0 : decode b_T_init 0 = .ok (.aload_n 0, 1) := by decide +kernel
theorem d_T_init_1 : decode b_T_init 1 = .ok (.invokespecial 3, 3) := by decide +kernel
theorem d_T_init_4 : decode b_T_init 4 = .ok (.aload_n 0, 1) := by decide +kernel
theorem d_T_init_5 : decode b_T_init 5 = .ok (.bipush 60, 2) := by decide +kernel
theorem d_T_init_7 : decode b_T_init 7 = .ok (.newarray .int, 2) := by decide +kernel
theorem d_T_init_9 : decode b_T_init 9 = .ok (.putfield 9, 3) := by decide +kernel
theorem d_T_init_12 : decode b_T_init 12 = .ok (.aload_n 0, 1) := by decide +kernel
theorem d_T_init_13 : decode b_T_init 13 = .ok (.bipush 60, 2) := by decide +kernel
theorem d_T_init_15 : decode b_T_init 15 = .ok (.newarray .int, 2) := by decide +kernel
theorem d_T_init_17 : decode b_T_init 17 = .ok (.putfield 15, 3) := by decide +kernel
theorem d_T_init_20 : decode b_T_init 20 = .ok (.aload_n 0, 1) := by decide +kernel
theorem d_T_init_21 : decode b_T_init 21 = .ok (.bipush 60, 2) := by decide +kernel
theorem d_T_init_23 : decode b_T_init 23 = .ok (.newarray .int, 2) := by decide +kernel
theorem d_T_init_25 : decode b_T_init 25 = .ok (.putfield 18, 3) := by decide +kernel
theorem d_T_init_28 : decode b_T_init 28 = .ok (.aload_n 0, 1) := by decide +kernel
theorem d_T_init_29 : decode b_T_init 29 = .ok (.bipush 60, 2) := by decide +kernel
theorem d_T_init_31 : decode b_T_init 31 = .ok (.newarray .int, 2) := by decide +kernel
theorem d_T_init_33 : decode b_T_init 33 = .ok (.putfield 21, 3) := by decide +kernel
theorem d_T_init_36 : decode b_T_init 36 = .ok (.aload_n 0, 1) := by decide +kernel
theorem d_T_init_37 : decode b_T_init 37 = .ok (.bipush 60, 2) := by decide +kernel
theorem d_T_init_39 : decode b_T_init 39 = .ok (.newarray .int, 2) := by decide +kernel
theorem d_T_init_41 : decode b_T_init 41 = .ok (.putfield 24, 3) := by decide +kernel
theorem d_T_init_44 : decode b_T_init 44 = .ok (.aload_n 0, 1) := by decide +kernel
theorem d_T_init_45 : decode b_T_init 45 = .ok (.bipush 60, 2) := by decide +kernel
theorem d_T_init_47 : decode b_T_init 47 = .ok (.newarray .long, 2) := by decide +kernel
theorem d_T_init_49 : decode b_T_init 49 = .ok (.putfield 27, 3) := by decide +kernel
theorem d_T_init_52 : decode b_T_init 52 = .ok (.aload_n 0, 1) := by decide +kernel
theorem d_T_init_53 : decode b_T_init 53 = .ok (.bipush 60, 2) := by decide +kernel
theorem d_T_init_55 : decode b_T_init 55 = .ok (.newarray .int, 2) := by decide +kernel
theorem d_T_init_57 : decode b_T_init 57 = .ok (.putfield 31, 3) := by decide +kernel
theorem d_T_init_60 : decode b_T_init 60 = .ok (.aload_n 0, 1) := by decide +kernel
theorem d_T_init_61 : decode b_T_init 61 = .ok (.bipush 60, 2) := by decide +kernel
theorem d_T_init_63 : decode b_T_init 63 = .ok (.newarray .int, 2) := by decide +kernel
theorem d_T_init_65 : decode b_T_init 65 = .ok (.putfield 34, 3) := by decide +kernel
theorem d_T_init_68 : decode b_T_init 68 = .ok (.aload_n 0, 1) := by decide +kernel
theorem d_T_init_69 : decode b_T_init 69 = .ok (.bipush 60, 2) := by decide +kernel
theorem d_T_init_71 : decode b_T_init 71 = .ok (.newarray .int, 2) := by decide +kernel
theorem d_T_init_73 : decode b_T_init 73 = .ok (.putfield 37, 3) := by decide +kernel
theorem d_T_init_76 : decode b_T_init 76 = .ok (.aload_n 0, 1) := by decide +kernel
theorem d_T_init_77 : decode b_T_init 77 = .ok (.bipush 60, 2) := by decide +kernel
theorem d_T_init_79 : decode b_T_init 79 = .ok (.newarray .int, 2) := by decide +kernel
theorem d_T_init_81 : decode b_T_init 81 = .ok (.putfield 40, 3) := by decide +kernel
theorem d_T_init_84 : decode b_T_init 84 = .ok (.return_, 1) := by decide +kernel
theorem d_T_exists_0 : decode b_T_exists 0 = .ok (.iload_n 1, 1) := by decide +kernel
theorem d_T_exists_1 : decode b_T_exists 1 = .ok (.ifCond .lt 15, 3) := by decide +kernel
theorem d_T_exists_4 : decode b_T_exists 4 = .ok (.iload_n 1, 1) := by decide +kernel
theorem d_T_exists_5 : decode b_T_exists 5 = .ok (.aload_n 0, 1) := by decide +kernel
theorem d_T_exists_6 : decode b_T_exists 6 = .ok (.getfield 43, 3) := by decide +kernel
theorem d_T_exists_9 : decode b_T_exists 9 = .ok (.if_icmp .ge 7, 3) := by decide +kernel
theorem d_T_exists_12 : decode b_T_exists 12 = .ok (.iconst 1, 1) := by decide +kernel
theorem d_T_exists_13 : decode b_T_exists 13 = .ok (.goto 4, 3) := by decide +kernel
theorem d_T_exists_16 : decode b_T_exists 16 = .ok (.iconst 0, 1) := by decide +kernel
theorem d_T_exists_17 : decode b_T_exists 17 = .ok (.ireturn, 1) := by decide +kernel
theorem d_T_isActive_0 : decode b_T_isActive 0 = .ok (.aload_n 0, 1) := by decide +kernel
theorem d_T_isActive_1 : decode b_T_isActive 1 = .ok (.iload_n 1, 1) := by decide +kernel
theorem d_T_isActive_2 : decode b_T_isActive 2 = .ok (.invokevirtual 47, 3) := by decide +kernel
theorem d_T_isActive_5 : decode b_T_isActive 5 = .ok (.ifCond .eq 17, 3) := by decide +kernel
theorem d_T_isActive_8 : decode b_T_isActive 8 = .ok (.aload_n 0, 1) := by decide +kernel
theorem d_T_isActive_9 : decode b_T_isActive 9 = .ok (.getfield 21, 3) := by decide +kernel
theorem d_T_isActive_12 : decode b_T_isActive 12 = .ok (.iload_n 1, 1) := by decide +kernel
theorem d_T_isActive_13 : decode b_T_isActive 13 = .ok (.iaload, 1) := by decide +kernel
theorem d_T_isActive_14 : decode b_T_isActive 14 = .ok (.iconst 1, 1) := by decide +kernel
theorem d_T_isActive_15 : decode b_T_isActive 15 = .ok (.if_icmp .ne 7, 3) := by decide +kernel
theorem d_T_isActive_18 : decode b_T_isActive 18 = .ok (.iconst 1, 1) := by decide +kernel
theorem d_T_isActive_19 : decode b_T_isActive 19 = .ok (.goto 4, 3) := by decide +kernel
theorem d_T_isActive_22 : decode b_T_isActive 22 = .ok (.iconst 0, 1) := by decide +kernel
theorem d_T_isActive_23 : decode b_T_isActive 23 = .ok (.ireturn, 1) := by decide +kernel
theorem d_T_isWaiting_0 : decode b_T_isWaiting 0 = .ok (.aload_n 0, 1) := by decide +kernel
theorem d_T_isWaiting_1 : decode b_T_isWaiting 1 = .ok (.iload_n 1, 1) := by decide +kernel
theorem d_T_isWaiting_2 : decode b_T_isWaiting 2 = .ok (.invokevirtual 47, 3) := by decide +kernel
theorem d_T_isWaiting_5 : decode b_T_isWaiting 5 = .ok (.ifCond .eq 17, 3) := by decide +kernel
theorem d_T_isWaiting_8 : decode b_T_isWaiting 8 = .ok (.aload_n 0, 1) := by decide +kernel
theorem d_T_isWaiting_9 : decode b_T_isWaiting 9 = .ok (.getfield 21, 3) := by decide +kernel
theorem d_T_isWaiting_12 : decode b_T_isWaiting 12 = .ok (.iload_n 1, 1) := by decide +kernel
theorem d_T_isWaiting_13 : decode b_T_isWaiting 13 = .ok (.iaload, 1) := by decide +kernel
theorem d_T_isWaiting_14 : decode b_T_isWaiting 14 = .ok (.iconst 2, 1) := by decide +kernel
theorem d_T_isWaiting_15 : decode b_T_isWaiting 15 = .ok (.if_icmp .ne 7, 3) := by decide +kernel
theorem d_T_isWaiting_18 : decode b_T_isWaiting 18 = .ok (.iconst 1, 1) := by decide +kernel
theorem d_T_isWaiting_19 : decode b_T_isWaiting 19 = .ok (.goto 4, 3) := by decide +kernel
theorem d_T_isWaiting_22 : decode b_T_isWaiting 22 = .ok (.iconst 0, 1) := by decide +kernel
theorem d_T_isWaiting_23 : decode b_T_isWaiting 23 = .ok (.ireturn, 1) := by decide +kernel
theorem d_T_isLive_0 : decode b_T_isLive 0 = .ok (.aload_n 0, 1) := by decide +kernel
theorem d_T_isLive_1 : decode b_T_isLive 1 = .ok (.iload_n 1, 1) := by decide +kernel
theorem d_T_isLive_2 : decode b_T_isLive 2 = .ok (.invokevirtual 47, 3) := by decide +kernel
theorem d_T_isLive_5 : decode b_T_isLive 5 = .ok (.ifCond .eq 27, 3) := by decide +kernel
theorem d_T_isLive_8 : decode b_T_isLive 8 = .ok (.aload_n 0, 1) := by decide +kernel
theorem d_T_isLive_9 : decode b_T_isLive 9 = .ok (.getfield 21, 3) := by decide +kernel
theorem d_T_isLive_12 : decode b_T_isLive 12 = .ok (.iload_n 1, 1) := by decide +kernel
theorem d_T_isLive_13 : decode b_T_isLive 13 = .ok (.iaload, 1) := by decide +kernel
theorem d_T_isLive_14 : decode b_T_isLive 14 = .ok (.iconst 1, 1) := by decide +kernel
theorem d_T_isLive_15 : decode b_T_isLive 15 = .ok (.if_icmp .eq 13, 3) := by decide +kernel
theorem d_T_isLive_18 : decode b_T_isLive 18 = .ok (.aload_n 0, 1) := by decide +kernel
theorem d_T_isLive_19 : decode b_T_isLive 19 = .ok (.getfield 21, 3) := by decide +kernel
theorem d_T_isLive_22 : decode b_T_isLive 22 = .ok (.iload_n 1, 1) := by decide +kernel
theorem d_T_isLive_23 : decode b_T_isLive 23 = .ok (.iaload, 1) := by decide +kernel
theorem d_T_isLive_24 : decode b_T_isLive 24 = .ok (.iconst 2, 1) := by decide +kernel
theorem d_T_isLive_25 : decode b_T_isLive 25 = .ok (.if_icmp .ne 7, 3) := by decide +kernel
theorem d_T_isLive_28 : decode b_T_isLive 28 = .ok (.iconst 1, 1) := by decide +kernel
theorem d_T_isLive_29 : decode b_T_isLive 29 = .ok (.goto 4, 3) := by decide +kernel
theorem d_T_isLive_32 : decode b_T_isLive 32 = .ok (.iconst 0, 1) := by decide +kernel
theorem d_T_isLive_33 : decode b_T_isLive 33 = .ok (.ireturn, 1) := by decide +kernel
theorem d_T_isTopLive_0 : decode b_T_isTopLive 0 = .ok (.aload_n 0, 1) := by decide +kernel
theorem d_T_isTopLive_1 : decode b_T_isTopLive 1 = .ok (.getfield 21, 3) := by decide +kernel
theorem d_T_isTopLive_4 : decode b_T_isTopLive 4 = .ok (.aload_n 0, 1) := by decide +kernel
theorem d_T_isTopLive_5 : decode b_T_isTopLive 5 = .ok (.getfield 15, 3) := by decide +kernel
theorem d_T_isTopLive_8 : decode b_T_isTopLive 8 = .ok (.iload_n 1, 1) := by decide +kernel
theorem d_T_isTopLive_9 : decode b_T_isTopLive 9 = .ok (.iaload, 1) := by decide +kernel
theorem d_T_isTopLive_10 : decode b_T_isTopLive 10 = .ok (.iaload, 1) := by decide +kernel
theorem d_T_isTopLive_11 : decode b_T_isTopLive 11 = .ok (.istore_n 2, 1) := by decide +kernel
theorem d_T_isTopLive_12 : decode b_T_isTopLive 12 = .ok (.iload_n 2, 1) := by decide +kernel
theorem d_T_isTopLive_13 : decode b_T_isTopLive 13 = .ok (.iconst 1, 1) := by decide +kernel
theorem d_T_isTopLive_14 : decode b_T_isTopLive 14 = .ok (.if_icmp .eq 8, 3) := by decide +kernel
theorem d_T_isTopLive_17 : decode b_T_isTopLive 17 = .ok (.iload_n 2, 1) := by decide +kernel
theorem d_T_isTopLive_18 : decode b_T_isTopLive 18 = .ok (.iconst 2, 1) := by decide +kernel
theorem d_T_isTopLive_19 : decode b_T_isTopLive 19 = .ok (.if_icmp .ne 7, 3) := by decide +kernel
theorem d_T_isTopLive_22 : decode b_T_isTopLive 22 = .ok (.iconst 1, 1) := by decide +kernel
theorem d_T_isTopLive_23 : decode b_T_isTopLive 23 = .ok (.goto 4, 3) := by decide +kernel
theorem d_T_isTopLive_26 : decode b_T_isTopLive 26 = .ok (.iconst 0, 1) := by decide +kernel
theorem d_T_isTopLive_27 : decode b_T_isTopLive 27 = .ok (.ireturn, 1) := by decide +kernel
theorem d_T_isWithin_0 : decode b_T_isWithin 0 = .ok (.aload_n 0, 1) := by decide +kernel
theorem d_T_isWithin_1 : decode b_T_isWithin 1 = .ok (.getfield 27, 3) := by decide +kernel
theorem d_T_isWithin_4 : decode b_T_isWithin 4 = .ok (.iload_n 1, 1) := by decide +kernel
theorem d_T_isWithin_5 : decode b_T_isWithin 5 = .ok (.laload, 1) := by decide +kernel
theorem d_T_isWithin_6 : decode b_T_isWithin 6 = .ok (.lconst 1, 1) := by decide +kernel
theorem d_T_isWithin_7 : decode b_T_isWithin 7 = .ok (.iload_n 2, 1) := by decide +kernel
theorem d_T_isWithin_8 : decode b_T_isWithin 8 = .ok (.lshl, 1) := by decide +kernel
theorem d_T_isWithin_9 : decode b_T_isWithin 9 = .ok (.land, 1) := by decide +kernel
theorem d_T_isWithin_10 : decode b_T_isWithin 10 = .ok (.lconst 0, 1) := by decide +kernel
theorem d_T_isWithin_11 : decode b_T_isWithin 11 = .ok (.lcmp, 1) := by decide +kernel
theorem d_T_isWithin_12 : decode b_T_isWithin 12 = .ok (.ifCond .eq 7, 3) := by decide +kernel
theorem d_T_isWithin_15 : decode b_T_isWithin 15 = .ok (.iconst 1, 1) := by decide +kernel
theorem d_T_isWithin_16 : decode b_T_isWithin 16 = .ok (.goto 4, 3) := by decide +kernel
theorem d_T_isWithin_19 : decode b_T_isWithin 19 = .ok (.iconst 0, 1) := by decide +kernel
theorem d_T_isWithin_20 : decode b_T_isWithin 20 = .ok (.ireturn, 1) := by decide +kernel
theorem d_T_isBusy_0 : decode b_T_isBusy 0 = .ok (.aload_n 0, 1) := by decide +kernel
theorem d_T_isBusy_1 : decode b_T_isBusy 1 = .ok (.iload_n 1, 1) := by decide +kernel
theorem d_T_isBusy_2 : decode b_T_isBusy 2 = .ok (.invokevirtual 51, 3) := by decide +kernel
theorem d_T_isBusy_5 : decode b_T_isBusy 5 = .ok (.lconst 0, 1) := by decide +kernel
theorem d_T_isBusy_6 : decode b_T_isBusy 6 = .ok (.lcmp, 1) := by decide +kernel
theorem d_T_isBusy_7 : decode b_T_isBusy 7 = .ok (.ifCond .eq 7, 3) := by decide +kernel
theorem d_T_isBusy_10 : decode b_T_isBusy 10 = .ok (.iconst 1, 1) := by decide +kernel
theorem d_T_isBusy_11 : decode b_T_isBusy 11 = .ok (.goto 4, 3) := by decide +kernel
theorem d_T_isBusy_14 : decode b_T_isBusy 14 = .ok (.iconst 0, 1) := by decide +kernel
theorem d_T_isBusy_15 : decode b_T_isBusy 15 = .ok (.ireturn, 1) := by decide +kernel
theorem d_T_liveChildren_0 : decode b_T_liveChildren 0 = .ok (.lconst 0, 1) := by decide +kernel
theorem d_T_liveChildren_1 : decode b_T_liveChildren 1 = .ok (.lstore_n 2, 1) := by decide +kernel
theorem d_T_liveChildren_2 : decode b_T_liveChildren 2 = .ok (.iload_n 1, 1) := by decide +kernel
theorem d_T_liveChildren_3 : decode b_T_liveChildren 3 = .ok (.iconst 1, 1) := by decide +kernel
theorem d_T_liveChildren_4 : decode b_T_liveChildren 4 = .ok (.iadd, 1) := by decide +kernel
theorem d_T_liveChildren_5 : decode b_T_liveChildren 5 = .ok (.istore 4, 2) := by decide +kernel
theorem d_T_liveChildren_7 : decode b_T_liveChildren 7 = .ok (.iload 4, 2) := by decide +kernel
theorem d_T_liveChildren_9 : decode b_T_liveChildren 9 = .ok (.aload_n 0, 1) := by decide +kernel
theorem d_T_liveChildren_10 : decode b_T_liveChildren 10 = .ok (.getfield 43, 3) := by decide +kernel
theorem d_T_liveChildren_13 : decode b_T_liveChildren 13 = .ok (.if_icmp .ge 36, 3) := by decide +kernel
theorem d_T_liveChildren_16 : decode b_T_liveChildren 16 = .ok (.aload_n 0, 1) := by decide +kernel
theorem d_T_liveChildren_17 : decode b_T_liveChildren 17 = .ok (.getfield 9, 3) := by decide +kernel
theorem d_T_liveChildren_20 : decode b_T_liveChildren 20 = .ok (.iload 4, 2) := by decide +kernel
theorem d_T_liveChildren_22 : decode b_T_liveChildren 22 = .ok (.iaload, 1) := by decide +kernel
theorem d_T_liveChildren_23 : decode b_T_liveChildren 23 = .ok (.iload_n 1, 1) := by decide +kernel
theorem d_T_liveChildren_24 : decode b_T_liveChildren 24 = .ok (.if_icmp .ne 19, 3) := by decide +kernel
theorem d_T_liveChildren_27 : decode b_T_liveChildren 27 = .ok (.aload_n 0, 1) := by decide +kernel
theorem d_T_liveChildren_28 : decode b_T_liveChildren 28 = .ok (.iload 4, 2) := by decide +kernel
theorem d_T_liveChildren_30 : decode b_T_liveChildren 30 = .ok (.invokevirtual 55, 3) := by decide +kernel
theorem d_T_liveChildren_33 : decode b_T_liveChildren 33 = .ok (.ifCond .eq 10, 3) := by decide +kernel
theorem d_T_liveChildren_36 : decode b_T_liveChildren 36 = .ok (.lload_n 2, 1) := by decide +kernel
theorem d_T_liveChildren_37 : decode b_T_liveChildren 37 = .ok (.lconst 1, 1) := by decide +kernel
theorem d_T_liveChildren_38 : decode b_T_liveChildren 38 = .ok (.iload 4, 2) := by decide +kernel
theorem d_T_liveChildren_40 : decode b_T_liveChildren 40 = .ok (.lshl, 1) := by decide +kernel
theorem d_T_liveChildren_41 : decode b_T_liveChildren 41 = .ok (.lor, 1) := by decide +kernel
theorem d_T_liveChildren_42 : decode b_T_liveChildren 42 = .ok (.lstore_n 2, 1) := by decide +kernel
theorem d_T_liveChildren_43 : decode b_T_liveChildren 43 = .ok (.iinc 4 1, 3) := by decide +kernel
theorem d_T_liveChildren_46 : decode b_T_liveChildren 46 = .ok (.goto (-39), 3) := by decide +kernel
theorem d_T_liveChildren_49 : decode b_T_liveChildren 49 = .ok (.lload_n 2, 1) := by decide +kernel
theorem d_T_liveChildren_50 : decode b_T_liveChildren 50 = .ok (.lreturn, 1) := by decide +kernel
theorem d_T_liveCount_0 : decode b_T_liveCount 0 = .ok (.iconst 0, 1) := by decide +kernel
theorem d_T_liveCount_1 : decode b_T_liveCount 1 = .ok (.istore_n 1, 1) := by decide +kernel
theorem d_T_liveCount_2 : decode b_T_liveCount 2 = .ok (.iconst 0, 1) := by decide +kernel
theorem d_T_liveCount_3 : decode b_T_liveCount 3 = .ok (.istore_n 2, 1) := by decide +kernel
theorem d_T_liveCount_4 : decode b_T_liveCount 4 = .ok (.iload_n 2, 1) := by decide +kernel
theorem d_T_liveCount_5 : decode b_T_liveCount 5 = .ok (.aload_n 0, 1) := by decide +kernel
theorem d_T_liveCount_6 : decode b_T_liveCount 6 = .ok (.getfield 43, 3) := by decide +kernel
theorem d_T_liveCount_9 : decode b_T_liveCount 9 = .ok (.if_icmp .ge 20, 3) := by decide +kernel
theorem d_T_liveCount_12 : decode b_T_liveCount 12 = .ok (.aload_n 0, 1) := by decide +kernel
theorem d_T_liveCount_13 : decode b_T_liveCount 13 = .ok (.iload_n 2, 1) := by decide +kernel
theorem d_T_liveCount_14 : decode b_T_liveCount 14 = .ok (.invokevirtual 55, 3) := by decide +kernel
theorem d_T_liveCount_17 : decode b_T_liveCount 17 = .ok (.ifCond .eq 6, 3) := by decide +kernel
theorem d_T_liveCount_20 : decode b_T_liveCount 20 = .ok (.iinc 1 1, 3) := by decide +kernel
theorem d_T_liveCount_23 : decode b_T_liveCount 23 = .ok (.iinc 2 1, 3) := by decide +kernel
theorem d_T_liveCount_26 : decode b_T_liveCount 26 = .ok (.goto (-22), 3) := by decide +kernel
theorem d_T_liveCount_29 : decode b_T_liveCount 29 = .ok (.iload_n 1, 1) := by decide +kernel
theorem d_T_liveCount_30 : decode b_T_liveCount 30 = .ok (.ireturn, 1) := by decide +kernel
theorem d_T_add_0 : decode b_T_add 0 = .ok (.aload_n 0, 1) := by decide +kernel
theorem d_T_add_1 : decode b_T_add 1 = .ok (.getfield 43, 3) := by decide +kernel
theorem d_T_add_4 : decode b_T_add 4 = .ok (.istore_n 3, 1) := by decide +kernel
theorem d_T_add_5 : decode b_T_add 5 = .ok (.aload_n 0, 1) := by decide +kernel
theorem d_T_add_6 : decode b_T_add 6 = .ok (.iload_n 1, 1) := by decide +kernel
theorem d_T_add_7 : decode b_T_add 7 = .ok (.invokevirtual 47, 3) := by decide +kernel
theorem d_T_add_10 : decode b_T_add 10 = .ok (.ifCond .ne 7, 3) := by decide +kernel
theorem d_T_add_13 : decode b_T_add 13 = .ok (.iconst 1, 1) := by decide +kernel
theorem d_T_add_14 : decode b_T_add 14 = .ok (.goto 4, 3) := by decide +kernel
theorem d_T_add_17 : decode b_T_add 17 = .ok (.iconst 0, 1) := by decide +kernel
theorem d_T_add_18 : decode b_T_add 18 = .ok (.istore 4, 2) := by decide +kernel
theorem d_T_add_20 : decode b_T_add 20 = .ok (.aload_n 0, 1) := by decide +kernel
theorem d_T_add_21 : decode b_T_add 21 = .ok (.getfield 9, 3) := by decide +kernel
theorem d_T_add_24 : decode b_T_add 24 = .ok (.iload_n 3, 1) := by decide +kernel
theorem d_T_add_25 : decode b_T_add 25 = .ok (.iload_n 1, 1) := by decide +kernel
theorem d_T_add_26 : decode b_T_add 26 = .ok (.iastore, 1) := by decide +kernel
theorem d_T_add_27 : decode b_T_add 27 = .ok (.aload_n 0, 1) := by decide +kernel
theorem d_T_add_28 : decode b_T_add 28 = .ok (.getfield 15, 3) := by decide +kernel
theorem d_T_add_31 : decode b_T_add 31 = .ok (.iload_n 3, 1) := by decide +kernel
theorem d_T_add_32 : decode b_T_add 32 = .ok (.iload 4, 2) := by decide +kernel
theorem d_T_add_34 : decode b_T_add 34 = .ok (.ifCond .eq 7, 3) := by decide +kernel
theorem d_T_add_37 : decode b_T_add 37 = .ok (.iload_n 3, 1) := by decide +kernel
theorem d_T_add_38 : decode b_T_add 38 = .ok (.goto 9, 3) := by decide +kernel
theorem d_T_add_41 : decode b_T_add 41 = .ok (.aload_n 0, 1) := by decide +kernel
theorem d_T_add_42 : decode b_T_add 42 = .ok (.getfield 15, 3) := by decide +kernel
theorem d_T_add_45 : decode b_T_add 45 = .ok (.iload_n 1, 1) := by decide +kernel
theorem d_T_add_46 : decode b_T_add 46 = .ok (.iaload, 1) := by decide +kernel
theorem d_T_add_47 : decode b_T_add 47 = .ok (.iastore, 1) := by decide +kernel
theorem d_T_add_48 : decode b_T_add 48 = .ok (.aload_n 0, 1) := by decide +kernel
theorem d_T_add_49 : decode b_T_add 49 = .ok (.getfield 18, 3) := by decide +kernel
theorem d_T_add_52 : decode b_T_add 52 = .ok (.iload_n 3, 1) := by decide +kernel
theorem d_T_add_53 : decode b_T_add 53 = .ok (.iload 4, 2) := by decide +kernel
theorem d_T_add_55 : decode b_T_add 55 = .ok (.ifCond .eq 7, 3) := by decide +kernel
theorem d_T_add_58 : decode b_T_add 58 = .ok (.iconst 1, 1) := by decide +kernel
theorem d_T_add_59 : decode b_T_add 59 = .ok (.goto 11, 3) := by decide +kernel
theorem d_T_add_62 : decode b_T_add 62 = .ok (.aload_n 0, 1) := by decide +kernel
theorem d_T_add_63 : decode b_T_add 63 = .ok (.getfield 18, 3) := by decide +kernel
theorem d_T_add_66 : decode b_T_add 66 = .ok (.iload_n 1, 1) := by decide +kernel
theorem d_T_add_67 : decode b_T_add 67 = .ok (.iaload, 1) := by decide +kernel
theorem d_T_add_68 : decode b_T_add 68 = .ok (.iconst 1, 1) := by decide +kernel
theorem d_T_add_69 : decode b_T_add 69 = .ok (.iadd, 1) := by decide +kernel
theorem d_T_add_70 : decode b_T_add 70 = .ok (.iastore, 1) := by decide +kernel
theorem d_T_add_71 : decode b_T_add 71 = .ok (.aload_n 0, 1) := by decide +kernel
theorem d_T_add_72 : decode b_T_add 72 = .ok (.getfield 27, 3) := by decide +kernel
theorem d_T_add_75 : decode b_T_add 75 = .ok (.iload_n 3, 1) := by decide +kernel
theorem d_T_add_76 : decode b_T_add 76 = .ok (.iload 4, 2) := by decide +kernel
theorem d_T_add_78 : decode b_T_add 78 = .ok (.ifCond .eq 9, 3) := by decide +kernel
theorem d_T_add_81 : decode b_T_add 81 = .ok (.lconst 1, 1) := by decide +kernel
theorem d_T_add_82 : decode b_T_add 82 = .ok (.iload_n 3, 1) := by decide +kernel
theorem d_T_add_83 : decode b_T_add 83 = .ok (.lshl, 1) := by decide +kernel
theorem d_T_add_84 : decode b_T_add 84 = .ok (.goto 13, 3) := by decide +kernel
theorem d_T_add_87 : decode b_T_add 87 = .ok (.aload_n 0, 1) := by decide +kernel
theorem d_T_add_88 : decode b_T_add 88 = .ok (.getfield 27, 3) := by decide +kernel
theorem d_T_add_91 : decode b_T_add 91 = .ok (.iload_n 1, 1) := by decide +kernel
theorem d_T_add_92 : decode b_T_add 92 = .ok (.laload, 1) := by decide +kernel
theorem d_T_add_93 : decode b_T_add 93 = .ok (.lconst 1, 1) := by decide +kernel
theorem d_T_add_94 : decode b_T_add 94 = .ok (.iload_n 3, 1) := by decide +kernel
theorem d_T_add_95 : decode b_T_add 95 = .ok (.lshl, 1) := by decide +kernel
theorem d_T_add_96 : decode b_T_add 96 = .ok (.lor, 1) := by decide +kernel
theorem d_T_add_97 : decode b_T_add 97 = .ok (.lastore, 1) := by decide +kernel
theorem d_T_add_98 : decode b_T_add 98 = .ok (.aload_n 0, 1) := by decide +kernel
theorem d_T_add_99 : decode b_T_add 99 = .ok (.getfield 21, 3) := by decide +kernel
theorem d_T_add_102 : decode b_T_add 102 = .ok (.iload_n 3, 1) := by decide +kernel
theorem d_T_add_103 : decode b_T_add 103 = .ok (.iconst 1, 1) := by decide +kernel
theorem d_T_add_104 : decode b_T_add 104 = .ok (.iastore, 1) := by decide +kernel
theorem d_T_add_105 : decode b_T_add 105 = .ok (.aload_n 0, 1) := by decide +kernel
theorem d_T_add_106 : decode b_T_add 106 = .ok (.getfield 24, 3) := by decide +kernel
theorem d_T_add_109 : decode b_T_add 109 = .ok (.iload_n 3, 1) := by decide +kernel
theorem d_T_add_110 : decode b_T_add 110 = .ok (.iload_n 2, 1) := by decide +kernel
theorem d_T_add_111 : decode b_T_add 111 = .ok (.iastore, 1) := by decide +kernel
theorem d_T_add_112 : decode b_T_add 112 = .ok (.aload_n 0, 1) := by decide +kernel
theorem d_T_add_113 : decode b_T_add 113 = .ok (.dup, 1) := by decide +kernel
theorem d_T_add_114 : decode b_T_add 114 = .ok (.getfield 43, 3) := by decide +kernel
theorem d_T_add_117 : decode b_T_add 117 = .ok (.iconst 1, 1) := by decide +kernel
theorem d_T_add_118 : decode b_T_add 118 = .ok (.iadd, 1) := by decide +kernel
theorem d_T_add_119 : decode b_T_add 119 = .ok (.putfield 43, 3) := by decide +kernel
theorem d_T_add_122 : decode b_T_add 122 = .ok (.iload_n 3, 1) := by decide +kernel
theorem d_T_add_123 : decode b_T_add 123 = .ok (.ireturn, 1) := by decide +kernel
theorem d_T_setRequest_0 : decode b_T_setRequest 0 = .ok (.aload_n 0, 1) := by decide +kernel
theorem d_T_setRequest_1 : decode b_T_setRequest 1 = .ok (.getfield 31, 3) := by decide +kernel
theorem d_T_setRequest_4 : decode b_T_setRequest 4 = .ok (.iload_n 1, 1) := by decide +kernel
theorem d_T_setRequest_5 : decode b_T_setRequest 5 = .ok (.iload_n 2, 1) := by decide +kernel
theorem d_T_setRequest_6 : decode b_T_setRequest 6 = .ok (.iastore, 1) := by decide +kernel
theorem d_T_setRequest_7 : decode b_T_setRequest 7 = .ok (.aload_n 0, 1) := by decide +kernel
theorem d_T_setRequest_8 : decode b_T_setRequest 8 = .ok (.getfield 34, 3) := by decide +kernel
theorem d_T_setRequest_11 : decode b_T_setRequest 11 = .ok (.iload_n 1, 1) := by decide +kernel
theorem d_T_setRequest_12 : decode b_T_setRequest 12 = .ok (.iload_n 3, 1) := by decide +kernel
theorem d_T_setRequest_13 : decode b_T_setRequest 13 = .ok (.iastore, 1) := by decide +kernel
theorem d_T_setRequest_14 : decode b_T_setRequest 14 = .ok (.aload_n 0, 1) := by decide +kernel
theorem d_T_setRequest_15 : decode b_T_setRequest 15 = .ok (.getfield 37, 3) := by decide +kernel
theorem d_T_setRequest_18 : decode b_T_setRequest 18 = .ok (.iload_n 1, 1) := by decide +kernel
theorem d_T_setRequest_19 : decode b_T_setRequest 19 = .ok (.iload 4, 2) := by decide +kernel
theorem d_T_setRequest_21 : decode b_T_setRequest 21 = .ok (.iastore, 1) := by decide +kernel
theorem d_T_setRequest_22 : decode b_T_setRequest 22 = .ok (.aload_n 0, 1) := by decide +kernel
theorem d_T_setRequest_23 : decode b_T_setRequest 23 = .ok (.getfield 40, 3) := by decide +kernel
theorem d_T_setRequest_26 : decode b_T_setRequest 26 = .ok (.iload_n 1, 1) := by decide +kernel
theorem d_T_setRequest_27 : decode b_T_setRequest 27 = .ok (.iload 5, 2) := by decide +kernel
theorem d_T_setRequest_29 : decode b_T_setRequest 29 = .ok (.iastore, 1) := by decide +kernel
theorem d_T_setRequest_30 : decode b_T_setRequest 30 = .ok (.return_, 1) := by decide +kernel
theorem d_T_abortUncommitted_0 : decode b_T_abortUncommitted 0 = .ok (.iconst 0, 1) := by decide +kernel
theorem d_T_abortUncommitted_1 : decode b_T_abortUncommitted 1 = .ok (.istore_n 1, 1) := by decide +kernel
theorem d_T_abortUncommitted_2 : decode b_T_abortUncommitted 2 = .ok (.iload_n 1, 1) := by decide +kernel
theorem d_T_abortUncommitted_3 : decode b_T_abortUncommitted 3 = .ok (.aload_n 0, 1) := by decide +kernel
theorem d_T_abortUncommitted_4 : decode b_T_abortUncommitted 4 = .ok (.getfield 43, 3) := by decide +kernel
theorem d_T_abortUncommitted_7 : decode b_T_abortUncommitted 7 = .ok (.if_icmp .ge 31, 3) := by decide +kernel
theorem d_T_abortUncommitted_10 : decode b_T_abortUncommitted 10 = .ok (.aload_n 0, 1) := by decide +kernel
theorem d_T_abortUncommitted_11 : decode b_T_abortUncommitted 11 = .ok (.getfield 21, 3) := by decide +kernel
theorem d_T_abortUncommitted_14 : decode b_T_abortUncommitted 14 = .ok (.aload_n 0, 1) := by decide +kernel
theorem d_T_abortUncommitted_15 : decode b_T_abortUncommitted 15 = .ok (.getfield 15, 3) := by decide +kernel
theorem d_T_abortUncommitted_18 : decode b_T_abortUncommitted 18 = .ok (.iload_n 1, 1) := by decide +kernel
theorem d_T_abortUncommitted_19 : decode b_T_abortUncommitted 19 = .ok (.iaload, 1) := by decide +kernel
theorem d_T_abortUncommitted_20 : decode b_T_abortUncommitted 20 = .ok (.iaload, 1) := by decide +kernel
theorem d_T_abortUncommitted_21 : decode b_T_abortUncommitted 21 = .ok (.iconst 3, 1) := by decide +kernel
theorem d_T_abortUncommitted_22 : decode b_T_abortUncommitted 22 = .ok (.if_icmp .eq 10, 3) := by decide +kernel
theorem d_T_abortUncommitted_25 : decode b_T_abortUncommitted 25 = .ok (.aload_n 0, 1) := by decide +kernel
theorem d_T_abortUncommitted_26 : decode b_T_abortUncommitted 26 = .ok (.getfield 21, 3) := by decide +kernel
theorem d_T_abortUncommitted_29 : decode b_T_abortUncommitted 29 = .ok (.iload_n 1, 1) := by decide +kernel
theorem d_T_abortUncommitted_30 : decode b_T_abortUncommitted 30 = .ok (.iconst 4, 1) := by decide +kernel
theorem d_T_abortUncommitted_31 : decode b_T_abortUncommitted 31 = .ok (.iastore, 1) := by decide +kernel
theorem d_T_abortUncommitted_32 : decode b_T_abortUncommitted 32 = .ok (.iinc 1 1, 3) := by decide +kernel
theorem d_T_abortUncommitted_35 : decode b_T_abortUncommitted 35 = .ok (.goto (-33), 3) := by decide +kernel
theorem d_T_abortUncommitted_38 : decode b_T_abortUncommitted 38 = .ok (.return_, 1) := by decide +kernel
