theorem d_A_init_0 : decode b_A_init 0 = .ok (.aload_n 0, 1) := by decide +kernel
theorem d_A_init_1 : decode b_A_init 1 = .ok (.invokespecial 3, 3) := by decide +kernel
theorem d_A_init_4 : decode b_A_init 4 = .ok (.aload_n 0, 1) := by decide +kernel
theorem d_A_init_5 : decode b_A_init 5 = .ok (.bipush 8, 2) := by decide +kernel
theorem d_A_init_7 : decode b_A_init 7 = .ok (.newarray .int, 2) := by decide +kernel
theorem d_A_init_9 : decode b_A_init 9 = .ok (.putfield 9, 3) := by decide +kernel
theorem d_A_init_12 : decode b_A_init 12 = .ok (.aload_n 0, 1) := by decide +kernel
theorem d_A_init_13 : decode b_A_init 13 = .ok (.bipush 8, 2) := by decide +kernel
theorem d_A_init_15 : decode b_A_init 15 = .ok (.newarray .boolean, 2) := by decide +kernel
theorem d_A_init_17 : decode b_A_init 17 = .ok (.putfield 15, 3) := by decide +kernel
theorem d_A_init_20 : decode b_A_init 20 = .ok (.aload_n 0, 1) := by decide +kernel
theorem d_A_init_21 : decode b_A_init 21 = .ok (.bipush 8, 2) := by decide +kernel
theorem d_A_init_23 : decode b_A_init 23 = .ok (.newarray .int, 2) := by decide +kernel
theorem d_A_init_25 : decode b_A_init 25 = .ok (.putfield 19, 3) := by decide +kernel
theorem d_A_init_28 : decode b_A_init 28 = .ok (.aload_n 0, 1) := by decide +kernel
theorem d_A_init_29 : decode b_A_init 29 = .ok (.bipush 32, 2) := by decide +kernel
theorem d_A_init_31 : decode b_A_init 31 = .ok (.newarray .boolean, 2) := by decide +kernel
theorem d_A_init_33 : decode b_A_init 33 = .ok (.putfield 22, 3) := by decide +kernel
theorem d_A_init_36 : decode b_A_init 36 = .ok (.aload_n 0, 1) := by decide +kernel
theorem d_A_init_37 : decode b_A_init 37 = .ok (.bipush 32, 2) := by decide +kernel
theorem d_A_init_39 : decode b_A_init 39 = .ok (.newarray .int, 2) := by decide +kernel
theorem d_A_init_41 : decode b_A_init 41 = .ok (.putfield 25, 3) := by decide +kernel
theorem d_A_init_44 : decode b_A_init 44 = .ok (.aload_n 0, 1) := by decide +kernel
theorem d_A_init_45 : decode b_A_init 45 = .ok (.bipush 8, 2) := by decide +kernel
theorem d_A_init_47 : decode b_A_init 47 = .ok (.newarray .int, 2) := by decide +kernel
theorem d_A_init_49 : decode b_A_init 49 = .ok (.putfield 28, 3) := by decide +kernel
theorem d_A_init_52 : decode b_A_init 52 = .ok (.aload_n 0, 1) := by decide +kernel
theorem d_A_init_53 : decode b_A_init 53 = .ok (.bipush 32, 2) := by decide +kernel
theorem d_A_init_55 : decode b_A_init 55 = .ok (.newarray .boolean, 2) := by decide +kernel
theorem d_A_init_57 : decode b_A_init 57 = .ok (.putfield 31, 3) := by decide +kernel
theorem d_A_init_60 : decode b_A_init 60 = .ok (.aload_n 0, 1) := by decide +kernel
theorem d_A_init_61 : decode b_A_init 61 = .ok (.bipush 32, 2) := by decide +kernel
theorem d_A_init_63 : decode b_A_init 63 = .ok (.newarray .int, 2) := by decide +kernel
theorem d_A_init_65 : decode b_A_init 65 = .ok (.putfield 34, 3) := by decide +kernel
theorem d_A_init_68 : decode b_A_init 68 = .ok (.aload_n 0, 1) := by decide +kernel
theorem d_A_init_69 : decode b_A_init 69 = .ok (.iload_n 1, 1) := by decide +kernel
theorem d_A_init_70 : decode b_A_init 70 = .ok (.putfield 37, 3) := by decide +kernel
theorem d_A_init_73 : decode b_A_init 73 = .ok (.return_, 1) := by decide +kernel
theorem d_A_nextItem_0 : decode b_A_nextItem 0 = .ok (.iload_n 1, 1) := by decide +kernel
theorem d_A_nextItem_1 : decode b_A_nextItem 1 = .ok (.iconst 1, 1) := by decide +kernel
theorem d_A_nextItem_2 : decode b_A_nextItem 2 = .ok (.iadd, 1) := by decide +kernel
theorem d_A_nextItem_3 : decode b_A_nextItem 3 = .ok (.istore_n 2, 1) := by decide +kernel
theorem d_A_nextItem_4 : decode b_A_nextItem 4 = .ok (.iload_n 2, 1) := by decide +kernel
theorem d_A_nextItem_5 : decode b_A_nextItem 5 = .ok (.bipush 32, 2) := by decide +kernel
theorem d_A_nextItem_7 : decode b_A_nextItem 7 = .ok (.if_icmp .ge 20, 3) := by decide +kernel
theorem d_A_nextItem_10 : decode b_A_nextItem 10 = .ok (.aload_n 0, 1) := by decide +kernel
theorem d_A_nextItem_11 : decode b_A_nextItem 11 = .ok (.getfield 22, 3) := by decide +kernel
theorem d_A_nextItem_14 : decode b_A_nextItem 14 = .ok (.iload_n 2, 1) := by decide +kernel
theorem d_A_nextItem_15 : decode b_A_nextItem 15 = .ok (.baload, 1) := by decide +kernel
theorem d_A_nextItem_16 : decode b_A_nextItem 16 = .ok (.ifCond .eq 5, 3) := by decide +kernel
theorem d_A_nextItem_19 : decode b_A_nextItem 19 = .ok (.iload_n 2, 1) := by decide +kernel
theorem d_A_nextItem_20 : decode b_A_nextItem 20 = .ok (.ireturn, 1) := by decide +kernel
theorem d_A_nextItem_21 : decode b_A_nextItem 21 = .ok (.iinc 2 1, 3) := by decide +kernel
theorem d_A_nextItem_24 : decode b_A_nextItem 24 = .ok (.goto (-20), 3) := by decide +kernel
theorem d_A_nextItem_27 : decode b_A_nextItem 27 = .ok (.bipush 32, 2) := by decide +kernel
theorem d_A_nextItem_29 : decode b_A_nextItem 29 = .ok (.ireturn, 1) := by decide +kernel
theorem d_A_touch_0 : decode b_A_touch 0 = .ok (.iconst 0, 1) := by decide +kernel
theorem d_A_touch_1 : decode b_A_touch 1 = .ok (.istore_n 3, 1) := by decide +kernel
theorem d_A_touch_2 : decode b_A_touch 2 = .ok (.iload_n 3, 1) := by decide +kernel
theorem d_A_touch_3 : decode b_A_touch 3 = .ok (.aload_n 0, 1) := by decide +kernel
theorem d_A_touch_4 : decode b_A_touch 4 = .ok (.getfield 41, 3) := by decide +kernel
theorem d_A_touch_7 : decode b_A_touch 7 = .ok (.if_icmp .ge 19, 3) := by decide +kernel
theorem d_A_touch_10 : decode b_A_touch 10 = .ok (.aload_n 0, 1) := by decide +kernel
theorem d_A_touch_11 : decode b_A_touch 11 = .ok (.getfield 9, 3) := by decide +kernel
theorem d_A_touch_14 : decode b_A_touch 14 = .ok (.iload_n 3, 1) := by decide +kernel
theorem d_A_touch_15 : decode b_A_touch 15 = .ok (.iaload, 1) := by decide +kernel
theorem d_A_touch_16 : decode b_A_touch 16 = .ok (.iload_n 1, 1) := by decide +kernel
theorem d_A_touch_17 : decode b_A_touch 17 = .ok (.if_icmp .eq 9, 3) := by decide +kernel
theorem d_A_touch_20 : decode b_A_touch 20 = .ok (.iinc 3 1, 3) := by decide +kernel
theorem d_A_touch_23 : decode b_A_touch 23 = .ok (.goto (-21), 3) := by decide +kernel
theorem d_A_touch_26 : decode b_A_touch 26 = .ok (.iload_n 3, 1) := by decide +kernel
theorem d_A_touch_27 : decode b_A_touch 27 = .ok (.aload_n 0, 1) := by decide +kernel
theorem d_A_touch_28 : decode b_A_touch 28 = .ok (.getfield 37, 3) := by decide +kernel
theorem d_A_touch_31 : decode b_A_touch 31 = .ok (.if_icmp .ne 34, 3) := by decide +kernel
theorem d_A_touch_34 : decode b_A_touch 34 = .ok (.iinc 3 (-1), 3) := by decide +kernel
theorem d_A_touch_37 : decode b_A_touch 37 = .ok (.aload_n 0, 1) := by decide +kernel
theorem d_A_touch_38 : decode b_A_touch 38 = .ok (.getfield 15, 3) := by decide +kernel
theorem d_A_touch_41 : decode b_A_touch 41 = .ok (.aload_n 0, 1) := by decide +kernel
theorem d_A_touch_42 : decode b_A_touch 42 = .ok (.getfield 9, 3) := by decide +kernel
theorem d_A_touch_45 : decode b_A_touch 45 = .ok (.iload_n 3, 1) := by decide +kernel
theorem d_A_touch_46 : decode b_A_touch 46 = .ok (.iaload, 1) := by decide +kernel
theorem d_A_touch_47 : decode b_A_touch 47 = .ok (.baload, 1) := by decide +kernel
theorem d_A_touch_48 : decode b_A_touch 48 = .ok (.ifCond .eq 35, 3) := by decide +kernel
theorem d_A_touch_51 : decode b_A_touch 51 = .ok (.aload_n 0, 1) := by decide +kernel
theorem d_A_touch_52 : decode b_A_touch 52 = .ok (.aload_n 0, 1) := by decide +kernel
theorem d_A_touch_53 : decode b_A_touch 53 = .ok (.getfield 9, 3) := by decide +kernel
theorem d_A_touch_56 : decode b_A_touch 56 = .ok (.iload_n 3, 1) := by decide +kernel
theorem d_A_touch_57 : decode b_A_touch 57 = .ok (.iaload, 1) := by decide +kernel
theorem d_A_touch_58 : decode b_A_touch 58 = .ok (.aload_n 2, 1) := by decide +kernel
theorem d_A_touch_59 : decode b_A_touch 59 = .ok (.invokevirtual 44, 3) := by decide +kernel
theorem d_A_touch_62 : decode b_A_touch 62 = .ok (.goto 21, 3) := by decide +kernel
theorem d_A_touch_65 : decode b_A_touch 65 = .ok (.iload_n 3, 1) := by decide +kernel
theorem d_A_touch_66 : decode b_A_touch 66 = .ok (.aload_n 0, 1) := by decide +kernel
theorem d_A_touch_67 : decode b_A_touch 67 = .ok (.getfield 41, 3) := by decide +kernel
theorem d_A_touch_70 : decode b_A_touch 70 = .ok (.if_icmp .ne 13, 3) := by decide +kernel
theorem d_A_touch_73 : decode b_A_touch 73 = .ok (.aload_n 0, 1) := by decide +kernel
theorem d_A_touch_74 : decode b_A_touch 74 = .ok (.dup, 1) := by decide +kernel
theorem d_A_touch_75 : decode b_A_touch 75 = .ok (.getfield 41, 3) := by decide +kernel
theorem d_A_touch_78 : decode b_A_touch 78 = .ok (.iconst 1, 1) := by decide +kernel
theorem d_A_touch_79 : decode b_A_touch 79 = .ok (.iadd, 1) := by decide +kernel
theorem d_A_touch_80 : decode b_A_touch 80 = .ok (.putfield 41, 3) := by decide +kernel
theorem d_A_touch_83 : decode b_A_touch 83 = .ok (.iload_n 3, 1) := by decide +kernel
theorem d_A_touch_84 : decode b_A_touch 84 = .ok (.istore 4, 2) := by decide +kernel
theorem d_A_touch_86 : decode b_A_touch 86 = .ok (.iload 4, 2) := by decide +kernel
theorem d_A_touch_88 : decode b_A_touch 88 = .ok (.ifCond .le 25, 3) := by decide +kernel
theorem d_A_touch_91 : decode b_A_touch 91 = .ok (.aload_n 0, 1) := by decide +kernel
theorem d_A_touch_92 : decode b_A_touch 92 = .ok (.getfield 9, 3) := by decide +kernel
theorem d_A_touch_95 : decode b_A_touch 95 = .ok (.iload 4, 2) := by decide +kernel
theorem d_A_touch_97 : decode b_A_touch 97 = .ok (.aload_n 0, 1) := by decide +kernel
theorem d_A_touch_98 : decode b_A_touch 98 = .ok (.getfield 9, 3) := by decide +kernel
theorem d_A_touch_101 : decode b_A_touch 101 = .ok (.iload 4, 2) := by decide +kernel
theorem d_A_touch_103 : decode b_A_touch 103 = .ok (.iconst 1, 1) := by decide +kernel
theorem d_A_touch_104 : decode b_A_touch 104 = .ok (.isub, 1) := by decide +kernel
theorem d_A_touch_105 : decode b_A_touch 105 = .ok (.iaload, 1) := by decide +kernel
theorem d_A_touch_106 : decode b_A_touch 106 = .ok (.iastore, 1) := by decide +kernel
theorem d_A_touch_107 : decode b_A_touch 107 = .ok (.iinc 4 (-1), 3) := by decide +kernel
theorem d_A_touch_110 : decode b_A_touch 110 = .ok (.goto (-24), 3) := by decide +kernel
theorem d_A_touch_113 : decode b_A_touch 113 = .ok (.aload_n 0, 1) := by decide +kernel
theorem d_A_touch_114 : decode b_A_touch 114 = .ok (.getfield 9, 3) := by decide +kernel
theorem d_A_touch_117 : decode b_A_touch 117 = .ok (.iconst 0, 1) := by decide +kernel
theorem d_A_touch_118 : decode b_A_touch 118 = .ok (.iload_n 1, 1) := by decide +kernel
theorem d_A_touch_119 : decode b_A_touch 119 = .ok (.iastore, 1) := by decide +kernel
theorem d_A_touch_120 : decode b_A_touch 120 = .ok (.return_, 1) := by decide +kernel
theorem d_A_putOnDisk_0 : decode b_A_putOnDisk 0 = .ok (.aload_n 0, 1) := by decide +kernel
theorem d_A_putOnDisk_1 : decode b_A_putOnDisk 1 = .ok (.getfield 19, 3) := by decide +kernel
theorem d_A_putOnDisk_4 : decode b_A_putOnDisk 4 = .ok (.iload_n 1, 1) := by decide +kernel
theorem d_A_putOnDisk_5 : decode b_A_putOnDisk 5 = .ok (.iaload, 1) := by decide +kernel
theorem d_A_putOnDisk_6 : decode b_A_putOnDisk 6 = .ok (.aload_n 2, 1) := by decide +kernel
theorem d_A_putOnDisk_7 : decode b_A_putOnDisk 7 = .ok (.getfield 48, 3) := by decide +kernel
theorem d_A_putOnDisk_10 : decode b_A_putOnDisk 10 = .ok (.if_icmp .le 13, 3) := by decide +kernel
theorem d_A_putOnDisk_13 : decode b_A_putOnDisk 13 = .ok (.aload_n 2, 1) := by decide +kernel
theorem d_A_putOnDisk_14 : decode b_A_putOnDisk 14 = .ok (.aload_n 0, 1) := by decide +kernel
theorem d_A_putOnDisk_15 : decode b_A_putOnDisk 15 = .ok (.getfield 19, 3) := by decide +kernel
theorem d_A_putOnDisk_18 : decode b_A_putOnDisk 18 = .ok (.iload_n 1, 1) := by decide +kernel
theorem d_A_putOnDisk_19 : decode b_A_putOnDisk 19 = .ok (.iaload, 1) := by decide +kernel
theorem d_A_putOnDisk_20 : decode b_A_putOnDisk 20 = .ok (.putfield 48, 3) := by decide +kernel
theorem d_A_putOnDisk_23 : decode b_A_putOnDisk 23 = .ok (.aload_n 0, 1) := by decide +kernel
theorem d_A_putOnDisk_24 : decode b_A_putOnDisk 24 = .ok (.getfield 28, 3) := by decide +kernel
theorem d_A_putOnDisk_27 : decode b_A_putOnDisk 27 = .ok (.iload_n 1, 1) := by decide +kernel
theorem d_A_putOnDisk_28 : decode b_A_putOnDisk 28 = .ok (.aload_n 0, 1) := by decide +kernel
theorem d_A_putOnDisk_29 : decode b_A_putOnDisk 29 = .ok (.getfield 19, 3) := by decide +kernel
theorem d_A_putOnDisk_32 : decode b_A_putOnDisk 32 = .ok (.iload_n 1, 1) := by decide +kernel
theorem d_A_putOnDisk_33 : decode b_A_putOnDisk 33 = .ok (.iaload, 1) := by decide +kernel
theorem d_A_putOnDisk_34 : decode b_A_putOnDisk 34 = .ok (.iastore, 1) := by decide +kernel
theorem d_A_putOnDisk_35 : decode b_A_putOnDisk 35 = .ok (.iload_n 1, 1) := by decide +kernel
theorem d_A_putOnDisk_36 : decode b_A_putOnDisk 36 = .ok (.iconst 4, 1) := by decide +kernel
theorem d_A_putOnDisk_37 : decode b_A_putOnDisk 37 = .ok (.imul, 1) := by decide +kernel
theorem d_A_putOnDisk_38 : decode b_A_putOnDisk 38 = .ok (.istore_n 3, 1) := by decide +kernel
theorem d_A_putOnDisk_39 : decode b_A_putOnDisk 39 = .ok (.iload_n 3, 1) := by decide +kernel
theorem d_A_putOnDisk_40 : decode b_A_putOnDisk 40 = .ok (.istore 4, 2) := by decide +kernel
theorem d_A_putOnDisk_42 : decode b_A_putOnDisk 42 = .ok (.iload 4, 2) := by decide +kernel
theorem d_A_putOnDisk_44 : decode b_A_putOnDisk 44 = .ok (.iload_n 3, 1) := by decide +kernel
theorem d_A_putOnDisk_45 : decode b_A_putOnDisk 45 = .ok (.iconst 4, 1) := by decide +kernel
theorem d_A_putOnDisk_46 : decode b_A_putOnDisk 46 = .ok (.iadd, 1) := by decide +kernel
theorem d_A_putOnDisk_47 : decode b_A_putOnDisk 47 = .ok (.if_icmp .ge 37, 3) := by decide +kernel
theorem d_A_putOnDisk_50 : decode b_A_putOnDisk 50 = .ok (.aload_n 0, 1) := by decide +kernel
theorem d_A_putOnDisk_51 : decode b_A_putOnDisk 51 = .ok (.getfield 31, 3) := by decide +kernel
theorem d_A_putOnDisk_54 : decode b_A_putOnDisk 54 = .ok (.iload 4, 2) := by decide +kernel
theorem d_A_putOnDisk_56 : decode b_A_putOnDisk 56 = .ok (.aload_n 0, 1) := by decide +kernel
theorem d_A_putOnDisk_57 : decode b_A_putOnDisk 57 = .ok (.getfield 22, 3) := by decide +kernel
theorem d_A_putOnDisk_60 : decode b_A_putOnDisk 60 = .ok (.iload 4, 2) := by decide +kernel
theorem d_A_putOnDisk_62 : decode b_A_putOnDisk 62 = .ok (.baload, 1) := by decide +kernel
theorem d_A_putOnDisk_63 : decode b_A_putOnDisk 63 = .ok (.bastore, 1) := by decide +kernel
theorem d_A_putOnDisk_64 : decode b_A_putOnDisk 64 = .ok (.aload_n 0, 1) := by decide +kernel
theorem d_A_putOnDisk_65 : decode b_A_putOnDisk 65 = .ok (.getfield 34, 3) := by decide +kernel
theorem d_A_putOnDisk_68 : decode b_A_putOnDisk 68 = .ok (.iload 4, 2) := by decide +kernel
theorem d_A_putOnDisk_70 : decode b_A_putOnDisk 70 = .ok (.aload_n 0, 1) := by decide +kernel
theorem d_A_putOnDisk_71 : decode b_A_putOnDisk 71 = .ok (.getfield 25, 3) := by decide +kernel
theorem d_A_putOnDisk_74 : decode b_A_putOnDisk 74 = .ok (.iload 4, 2) := by decide +kernel
theorem d_A_putOnDisk_76 : decode b_A_putOnDisk 76 = .ok (.iaload, 1) := by decide +kernel
theorem d_A_putOnDisk_77 : decode b_A_putOnDisk 77 = .ok (.iastore, 1) := by decide +kernel
theorem d_A_putOnDisk_78 : decode b_A_putOnDisk 78 = .ok (.iinc 4 1, 3) := by decide +kernel
theorem d_A_putOnDisk_81 : decode b_A_putOnDisk 81 = .ok (.goto (-39), 3) := by decide +kernel
theorem d_A_putOnDisk_84 : decode b_A_putOnDisk 84 = .ok (.aload_n 0, 1) := by decide +kernel
theorem d_A_putOnDisk_85 : decode b_A_putOnDisk 85 = .ok (.getfield 15, 3) := by decide +kernel
theorem d_A_putOnDisk_88 : decode b_A_putOnDisk 88 = .ok (.iload_n 1, 1) := by decide +kernel
theorem d_A_putOnDisk_89 : decode b_A_putOnDisk 89 = .ok (.iconst 0, 1) := by decide +kernel
theorem d_A_putOnDisk_90 : decode b_A_putOnDisk 90 = .ok (.bastore, 1) := by decide +kernel
theorem d_A_putOnDisk_91 : decode b_A_putOnDisk 91 = .ok (.return_, 1) := by decide +kernel
theorem d_A_change_0 : decode b_A_change 0 = .ok (.iload_n 1, 1) := by decide +kernel
theorem d_A_change_1 : decode b_A_change 1 = .ok (.iconst 4, 1) := by decide +kernel
theorem d_A_change_2 : decode b_A_change 2 = .ok (.idiv, 1) := by decide +kernel
theorem d_A_change_3 : decode b_A_change 3 = .ok (.istore 5, 2) := by decide +kernel
theorem d_A_change_5 : decode b_A_change 5 = .ok (.aload_n 0, 1) := by decide +kernel
theorem d_A_change_6 : decode b_A_change 6 = .ok (.getfield 22, 3) := by decide +kernel
theorem d_A_change_9 : decode b_A_change 9 = .ok (.iload_n 1, 1) := by decide +kernel
theorem d_A_change_10 : decode b_A_change 10 = .ok (.iload_n 2, 1) := by decide +kernel
theorem d_A_change_11 : decode b_A_change 11 = .ok (.bastore, 1) := by decide +kernel
theorem d_A_change_12 : decode b_A_change 12 = .ok (.aload_n 0, 1) := by decide +kernel
theorem d_A_change_13 : decode b_A_change 13 = .ok (.getfield 25, 3) := by decide +kernel
theorem d_A_change_16 : decode b_A_change 16 = .ok (.iload_n 1, 1) := by decide +kernel
theorem d_A_change_17 : decode b_A_change 17 = .ok (.iload_n 3, 1) := by decide +kernel
theorem d_A_change_18 : decode b_A_change 18 = .ok (.iastore, 1) := by decide +kernel
theorem d_A_change_19 : decode b_A_change 19 = .ok (.aload_n 0, 1) := by decide +kernel
theorem d_A_change_20 : decode b_A_change 20 = .ok (.getfield 19, 3) := by decide +kernel
theorem d_A_change_23 : decode b_A_change 23 = .ok (.iload 5, 2) := by decide +kernel
theorem d_A_change_25 : decode b_A_change 25 = .ok (.iload 4, 2) := by decide +kernel
theorem d_A_change_27 : decode b_A_change 27 = .ok (.iastore, 1) := by decide +kernel
theorem d_A_change_28 : decode b_A_change 28 = .ok (.aload_n 0, 1) := by decide +kernel
theorem d_A_change_29 : decode b_A_change 29 = .ok (.getfield 15, 3) := by decide +kernel
theorem d_A_change_32 : decode b_A_change 32 = .ok (.iload 5, 2) := by decide +kernel
theorem d_A_change_34 : decode b_A_change 34 = .ok (.iconst 1, 1) := by decide +kernel
theorem d_A_change_35 : decode b_A_change 35 = .ok (.bastore, 1) := by decide +kernel
theorem d_A_change_36 : decode b_A_change 36 = .ok (.return_, 1) := by decide +kernel
theorem d_A_loseFrames_0 : decode b_A_loseFrames 0 = .ok (.aload_n 0, 1) := by decide +kernel
theorem d_A_loseFrames_1 : decode b_A_loseFrames 1 = .ok (.iconst 0, 1) := by decide +kernel
theorem d_A_loseFrames_2 : decode b_A_loseFrames 2 = .ok (.putfield 41, 3) := by decide +kernel
theorem d_A_loseFrames_5 : decode b_A_loseFrames 5 = .ok (.iconst 0, 1) := by decide +kernel
theorem d_A_loseFrames_6 : decode b_A_loseFrames 6 = .ok (.istore_n 1, 1) := by decide +kernel
theorem d_A_loseFrames_7 : decode b_A_loseFrames 7 = .ok (.iload_n 1, 1) := by decide +kernel
theorem d_A_loseFrames_8 : decode b_A_loseFrames 8 = .ok (.bipush 8, 2) := by decide +kernel
theorem d_A_loseFrames_10 : decode b_A_loseFrames 10 = .ok (.if_icmp .ge 28, 3) := by decide +kernel
theorem d_A_loseFrames_13 : decode b_A_loseFrames 13 = .ok (.aload_n 0, 1) := by decide +kernel
theorem d_A_loseFrames_14 : decode b_A_loseFrames 14 = .ok (.getfield 15, 3) := by decide +kernel
theorem d_A_loseFrames_17 : decode b_A_loseFrames 17 = .ok (.iload_n 1, 1) := by decide +kernel
theorem d_A_loseFrames_18 : decode b_A_loseFrames 18 = .ok (.iconst 0, 1) := by decide +kernel
theorem d_A_loseFrames_19 : decode b_A_loseFrames 19 = .ok (.bastore, 1) := by decide +kernel
theorem d_A_loseFrames_20 : decode b_A_loseFrames 20 = .ok (.aload_n 0, 1) := by decide +kernel
theorem d_A_loseFrames_21 : decode b_A_loseFrames 21 = .ok (.getfield 19, 3) := by decide +kernel
theorem d_A_loseFrames_24 : decode b_A_loseFrames 24 = .ok (.iload_n 1, 1) := by decide +kernel
theorem d_A_loseFrames_25 : decode b_A_loseFrames 25 = .ok (.aload_n 0, 1) := by decide +kernel
theorem d_A_loseFrames_26 : decode b_A_loseFrames 26 = .ok (.getfield 28, 3) := by decide +kernel
theorem d_A_loseFrames_29 : decode b_A_loseFrames 29 = .ok (.iload_n 1, 1) := by decide +kernel
theorem d_A_loseFrames_30 : decode b_A_loseFrames 30 = .ok (.iaload, 1) := by decide +kernel
theorem d_A_loseFrames_31 : decode b_A_loseFrames 31 = .ok (.iastore, 1) := by decide +kernel
theorem d_A_loseFrames_32 : decode b_A_loseFrames 32 = .ok (.iinc 1 1, 3) := by decide +kernel
theorem d_A_loseFrames_35 : decode b_A_loseFrames 35 = .ok (.goto (-28), 3) := by decide +kernel
theorem d_A_loseFrames_38 : decode b_A_loseFrames 38 = .ok (.iconst 0, 1) := by decide +kernel
theorem d_A_loseFrames_39 : decode b_A_loseFrames 39 = .ok (.istore_n 1, 1) := by decide +kernel
theorem d_A_loseFrames_40 : decode b_A_loseFrames 40 = .ok (.iload_n 1, 1) := by decide +kernel
theorem d_A_loseFrames_41 : decode b_A_loseFrames 41 = .ok (.bipush 32, 2) := by decide +kernel
theorem d_A_loseFrames_43 : decode b_A_loseFrames 43 = .ok (.if_icmp .ge 33, 3) := by decide +kernel
theorem d_A_loseFrames_46 : decode b_A_loseFrames 46 = .ok (.aload_n 0, 1) := by decide +kernel
theorem d_A_loseFrames_47 : decode b_A_loseFrames 47 = .ok (.getfield 22, 3) := by decide +kernel
theorem d_A_loseFrames_50 : decode b_A_loseFrames 50 = .ok (.iload_n 1, 1) := by decide +kernel
theorem d_A_loseFrames_51 : decode b_A_loseFrames 51 = .ok (.aload_n 0, 1) := by decide +kernel
theorem d_A_loseFrames_52 : decode b_A_loseFrames 52 = .ok (.getfield 31, 3) := by decide +kernel
theorem d_A_loseFrames_55 : decode b_A_loseFrames 55 = .ok (.iload_n 1, 1) := by decide +kernel
theorem d_A_loseFrames_56 : decode b_A_loseFrames 56 = .ok (.baload, 1) := by decide +kernel
theorem d_A_loseFrames_57 : decode b_A_loseFrames 57 = .ok (.bastore, 1) := by decide +kernel
theorem d_A_loseFrames_58 : decode b_A_loseFrames 58 = .ok (.aload_n 0, 1) := by decide +kernel
theorem d_A_loseFrames_59 : decode b_A_loseFrames 59 = .ok (.getfield 25, 3) := by decide +kernel
theorem d_A_loseFrames_62 : decode b_A_loseFrames 62 = .ok (.iload_n 1, 1) := by decide +kernel
theorem d_A_loseFrames_63 : decode b_A_loseFrames 63 = .ok (.aload_n 0, 1) := by decide +kernel
theorem d_A_loseFrames_64 : decode b_A_loseFrames 64 = .ok (.getfield 34, 3) := by decide +kernel
theorem d_A_loseFrames_67 : decode b_A_loseFrames 67 = .ok (.iload_n 1, 1) := by decide +kernel
theorem d_A_loseFrames_68 : decode b_A_loseFrames 68 = .ok (.iaload, 1) := by decide +kernel
theorem d_A_loseFrames_69 : decode b_A_loseFrames 69 = .ok (.iastore, 1) := by decide +kernel
theorem d_A_loseFrames_70 : decode b_A_loseFrames 70 = .ok (.iinc 1 1, 3) := by decide +kernel
theorem d_A_loseFrames_73 : decode b_A_loseFrames 73 = .ok (.goto (-33), 3) := by decide +kernel
theorem d_A_loseFrames_76 : decode b_A_loseFrames 76 = .ok (.return_, 1) := by decide +kernel
