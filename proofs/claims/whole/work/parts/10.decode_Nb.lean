theorem d_N_request_48 : decode b_N_request 48 = .ok (.iload_n 2, 1) := by decide +kernel
theorem d_N_request_49 : decode b_N_request 49 = .ok (.iconst (-1), 1) := by decide +kernel
theorem d_N_request_50 : decode b_N_request 50 = .ok (.if_icmp .eq 21, 3) := by decide +kernel
theorem d_N_request_53 : decode b_N_request 53 = .ok (.aload_n 0, 1) := by decide +kernel
theorem d_N_request_54 : decode b_N_request 54 = .ok (.iload_n 2, 1) := by decide +kernel
theorem d_N_request_55 : decode b_N_request 55 = .ok (.invokevirtual 125, 3) := by decide +kernel
theorem d_N_request_58 : decode b_N_request 58 = .ok (.pop, 1) := by decide +kernel
theorem d_N_request_59 : decode b_N_request 59 = .ok (.aload_n 0, 1) := by decide +kernel
theorem d_N_request_60 : decode b_N_request 60 = .ok (.iload_n 1, 1) := by decide +kernel
theorem d_N_request_61 : decode b_N_request 61 = .ok (.invokevirtual 253, 3) := by decide +kernel
theorem d_N_request_64 : decode b_N_request 64 = .ok (.istore_n 2, 1) := by decide +kernel
theorem d_N_request_65 : decode b_N_request 65 = .ok (.iinc 3 1, 3) := by decide +kernel
theorem d_N_request_68 : decode b_N_request 68 = .ok (.goto (-26), 3) := by decide +kernel
theorem d_N_request_71 : decode b_N_request 71 = .ok (.aload_n 0, 1) := by decide +kernel
theorem d_N_request_72 : decode b_N_request 72 = .ok (.getfield 12, 3) := by decide +kernel
theorem d_N_request_75 : decode b_N_request 75 = .ok (.iload_n 1, 1) := by decide +kernel
theorem d_N_request_76 : decode b_N_request 76 = .ok (.invokevirtual 122, 3) := by decide +kernel
theorem d_N_request_79 : decode b_N_request 79 = .ok (.ifCond .eq 8, 3) := by decide +kernel
theorem d_N_request_82 : decode b_N_request 82 = .ok (.bipush (-2), 2) := by decide +kernel
theorem d_N_request_84 : decode b_N_request 84 = .ok (.goto 5, 3) := by decide +kernel
theorem d_N_request_87 : decode b_N_request 87 = .ok (.bipush (-3), 2) := by decide +kernel
theorem d_N_request_89 : decode b_N_request 89 = .ok (.ireturn, 1) := by decide +kernel
theorem d_N_takeLocks_0 : decode b_N_takeLocks 0 = .ok (.aload_n 0, 1) := by decide +kernel
theorem d_N_takeLocks_1 : decode b_N_takeLocks 1 = .ok (.iload_n 1, 1) := by decide +kernel
theorem d_N_takeLocks_2 : decode b_N_takeLocks 2 = .ok (.invokevirtual 256, 3) := by decide +kernel
theorem d_N_takeLocks_5 : decode b_N_takeLocks 5 = .ok (.aload_n 0, 1) := by decide +kernel
theorem d_N_takeLocks_6 : decode b_N_takeLocks 6 = .ok (.iload_n 1, 1) := by decide +kernel
theorem d_N_takeLocks_7 : decode b_N_takeLocks 7 = .ok (.invokevirtual 259, 3) := by decide +kernel
theorem d_N_takeLocks_10 : decode b_N_takeLocks 10 = .ok (.istore_n 2, 1) := by decide +kernel
theorem d_N_takeLocks_11 : decode b_N_takeLocks 11 = .ok (.iconst 0, 1) := by decide +kernel
theorem d_N_takeLocks_12 : decode b_N_takeLocks 12 = .ok (.istore_n 3, 1) := by decide +kernel
theorem d_N_takeLocks_13 : decode b_N_takeLocks 13 = .ok (.iload_n 3, 1) := by decide +kernel
theorem d_N_takeLocks_14 : decode b_N_takeLocks 14 = .ok (.iload_n 2, 1) := by decide +kernel
theorem d_N_takeLocks_15 : decode b_N_takeLocks 15 = .ok (.if_icmp .ge 33, 3) := by decide +kernel
theorem d_N_takeLocks_18 : decode b_N_takeLocks 18 = .ok (.aload_n 0, 1) := by decide +kernel
theorem d_N_takeLocks_19 : decode b_N_takeLocks 19 = .ok (.getfield 19, 3) := by decide +kernel
theorem d_N_takeLocks_22 : decode b_N_takeLocks 22 = .ok (.iload_n 1, 1) := by decide +kernel
theorem d_N_takeLocks_23 : decode b_N_takeLocks 23 = .ok (.aload_n 0, 1) := by decide +kernel
theorem d_N_takeLocks_24 : decode b_N_takeLocks 24 = .ok (.getfield 26, 3) := by decide +kernel
theorem d_N_takeLocks_27 : decode b_N_takeLocks 27 = .ok (.getfield 262, 3) := by decide +kernel
theorem d_N_takeLocks_30 : decode b_N_takeLocks 30 = .ok (.iload_n 3, 1) := by decide +kernel
theorem d_N_takeLocks_31 : decode b_N_takeLocks 31 = .ok (.iaload, 1) := by decide +kernel
theorem d_N_takeLocks_32 : decode b_N_takeLocks 32 = .ok (.aload_n 0, 1) := by decide +kernel
theorem d_N_takeLocks_33 : decode b_N_takeLocks 33 = .ok (.getfield 26, 3) := by decide +kernel
theorem d_N_takeLocks_36 : decode b_N_takeLocks 36 = .ok (.getfield 265, 3) := by decide +kernel
theorem d_N_takeLocks_39 : decode b_N_takeLocks 39 = .ok (.invokevirtual 268, 3) := by decide +kernel
theorem d_N_takeLocks_42 : decode b_N_takeLocks 42 = .ok (.iinc 3 1, 3) := by decide +kernel
theorem d_N_takeLocks_45 : decode b_N_takeLocks 45 = .ok (.goto (-32), 3) := by decide +kernel
theorem d_N_takeLocks_48 : decode b_N_takeLocks 48 = .ok (.iload_n 2, 1) := by decide +kernel
theorem d_N_takeLocks_49 : decode b_N_takeLocks 49 = .ok (.aload_n 0, 1) := by decide +kernel
theorem d_N_takeLocks_50 : decode b_N_takeLocks 50 = .ok (.getfield 26, 3) := by decide +kernel
theorem d_N_takeLocks_53 : decode b_N_takeLocks 53 = .ok (.getfield 272, 3) := by decide +kernel
theorem d_N_takeLocks_56 : decode b_N_takeLocks 56 = .ok (.if_icmp .ne 7, 3) := by decide +kernel
theorem d_N_takeLocks_59 : decode b_N_takeLocks 59 = .ok (.iconst 1, 1) := by decide +kernel
theorem d_N_takeLocks_60 : decode b_N_takeLocks 60 = .ok (.goto 4, 3) := by decide +kernel
theorem d_N_takeLocks_63 : decode b_N_takeLocks 63 = .ok (.iconst 0, 1) := by decide +kernel
theorem d_N_takeLocks_64 : decode b_N_takeLocks 64 = .ok (.ireturn, 1) := by decide +kernel
theorem d_N_blockersOf_0 : decode b_N_blockersOf 0 = .ok (.aload_n 0, 1) := by decide +kernel
theorem d_N_blockersOf_1 : decode b_N_blockersOf 1 = .ok (.iload_n 1, 1) := by decide +kernel
theorem d_N_blockersOf_2 : decode b_N_blockersOf 2 = .ok (.invokevirtual 256, 3) := by decide +kernel
theorem d_N_blockersOf_5 : decode b_N_blockersOf 5 = .ok (.aload_n 0, 1) := by decide +kernel
theorem d_N_blockersOf_6 : decode b_N_blockersOf 6 = .ok (.iload_n 1, 1) := by decide +kernel
theorem d_N_blockersOf_7 : decode b_N_blockersOf 7 = .ok (.invokevirtual 259, 3) := by decide +kernel
theorem d_N_blockersOf_10 : decode b_N_blockersOf 10 = .ok (.istore_n 2, 1) := by decide +kernel
theorem d_N_blockersOf_11 : decode b_N_blockersOf 11 = .ok (.iload_n 2, 1) := by decide +kernel
theorem d_N_blockersOf_12 : decode b_N_blockersOf 12 = .ok (.aload_n 0, 1) := by decide +kernel
theorem d_N_blockersOf_13 : decode b_N_blockersOf 13 = .ok (.getfield 26, 3) := by decide +kernel
theorem d_N_blockersOf_16 : decode b_N_blockersOf 16 = .ok (.getfield 272, 3) := by decide +kernel
theorem d_N_blockersOf_19 : decode b_N_blockersOf 19 = .ok (.if_icmp .ne 5, 3) := by decide +kernel
theorem d_N_blockersOf_22 : decode b_N_blockersOf 22 = .ok (.lconst 0, 1) := by decide +kernel
theorem d_N_blockersOf_23 : decode b_N_blockersOf 23 = .ok (.lreturn, 1) := by decide +kernel
theorem d_N_blockersOf_24 : decode b_N_blockersOf 24 = .ok (.aload_n 0, 1) := by decide +kernel
theorem d_N_blockersOf_25 : decode b_N_blockersOf 25 = .ok (.getfield 19, 3) := by decide +kernel
theorem d_N_blockersOf_28 : decode b_N_blockersOf 28 = .ok (.aload_n 0, 1) := by decide +kernel
theorem d_N_blockersOf_29 : decode b_N_blockersOf 29 = .ok (.getfield 26, 3) := by decide +kernel
theorem d_N_blockersOf_32 : decode b_N_blockersOf 32 = .ok (.getfield 262, 3) := by decide +kernel
theorem d_N_blockersOf_35 : decode b_N_blockersOf 35 = .ok (.iload_n 2, 1) := by decide +kernel
theorem d_N_blockersOf_36 : decode b_N_blockersOf 36 = .ok (.iaload, 1) := by decide +kernel
theorem d_N_blockersOf_37 : decode b_N_blockersOf 37 = .ok (.aload_n 0, 1) := by decide +kernel
theorem d_N_blockersOf_38 : decode b_N_blockersOf 38 = .ok (.getfield 26, 3) := by decide +kernel
theorem d_N_blockersOf_41 : decode b_N_blockersOf 41 = .ok (.getfield 265, 3) := by decide +kernel
theorem d_N_blockersOf_44 : decode b_N_blockersOf 44 = .ok (.aload_n 0, 1) := by decide +kernel
theorem d_N_blockersOf_45 : decode b_N_blockersOf 45 = .ok (.getfield 12, 3) := by decide +kernel
theorem d_N_blockersOf_48 : decode b_N_blockersOf 48 = .ok (.getfield 273, 3) := by decide +kernel
theorem d_N_blockersOf_51 : decode b_N_blockersOf 51 = .ok (.iload_n 1, 1) := by decide +kernel
theorem d_N_blockersOf_52 : decode b_N_blockersOf 52 = .ok (.laload, 1) := by decide +kernel
theorem d_N_blockersOf_53 : decode b_N_blockersOf 53 = .ok (.invokevirtual 277, 3) := by decide +kernel
theorem d_N_blockersOf_56 : decode b_N_blockersOf 56 = .ok (.lreturn, 1) := by decide +kernel
theorem d_N_freeLocks_0 : decode b_N_freeLocks 0 = .ok (.iconst 0, 1) := by decide +kernel
theorem d_N_freeLocks_1 : decode b_N_freeLocks 1 = .ok (.istore_n 2, 1) := by decide +kernel
theorem d_N_freeLocks_2 : decode b_N_freeLocks 2 = .ok (.iload_n 2, 1) := by decide +kernel
theorem d_N_freeLocks_3 : decode b_N_freeLocks 3 = .ok (.aload_n 0, 1) := by decide +kernel
theorem d_N_freeLocks_4 : decode b_N_freeLocks 4 = .ok (.getfield 26, 3) := by decide +kernel
theorem d_N_freeLocks_7 : decode b_N_freeLocks 7 = .ok (.getfield 272, 3) := by decide +kernel
theorem d_N_freeLocks_10 : decode b_N_freeLocks 10 = .ok (.if_icmp .ge 81, 3) := by decide +kernel
theorem d_N_freeLocks_13 : decode b_N_freeLocks 13 = .ok (.aload_n 0, 1) := by decide +kernel
theorem d_N_freeLocks_14 : decode b_N_freeLocks 14 = .ok (.getfield 26, 3) := by decide +kernel
theorem d_N_freeLocks_17 : decode b_N_freeLocks 17 = .ok (.getfield 262, 3) := by decide +kernel
theorem d_N_freeLocks_20 : decode b_N_freeLocks 20 = .ok (.iload_n 2, 1) := by decide +kernel
theorem d_N_freeLocks_21 : decode b_N_freeLocks 21 = .ok (.iaload, 1) := by decide +kernel
theorem d_N_freeLocks_22 : decode b_N_freeLocks 22 = .ok (.istore_n 3, 1) := by decide +kernel
theorem d_N_freeLocks_23 : decode b_N_freeLocks 23 = .ok (.aload_n 0, 1) := by decide +kernel
theorem d_N_freeLocks_24 : decode b_N_freeLocks 24 = .ok (.getfield 19, 3) := by decide +kernel
theorem d_N_freeLocks_27 : decode b_N_freeLocks 27 = .ok (.iload_n 1, 1) := by decide +kernel
theorem d_N_freeLocks_28 : decode b_N_freeLocks 28 = .ok (.iload_n 3, 1) := by decide +kernel
theorem d_N_freeLocks_29 : decode b_N_freeLocks 29 = .ok (.invokevirtual 175, 3) := by decide +kernel
theorem d_N_freeLocks_32 : decode b_N_freeLocks 32 = .ok (.aload_n 0, 1) := by decide +kernel
theorem d_N_freeLocks_33 : decode b_N_freeLocks 33 = .ok (.getfield 26, 3) := by decide +kernel
theorem d_N_freeLocks_36 : decode b_N_freeLocks 36 = .ok (.getfield 265, 3) := by decide +kernel
theorem d_N_freeLocks_39 : decode b_N_freeLocks 39 = .ok (.if_icmp .lt 7, 3) := by decide +kernel
theorem d_N_freeLocks_42 : decode b_N_freeLocks 42 = .ok (.iconst 1, 1) := by decide +kernel
theorem d_N_freeLocks_43 : decode b_N_freeLocks 43 = .ok (.goto 4, 3) := by decide +kernel
theorem d_N_freeLocks_46 : decode b_N_freeLocks 46 = .ok (.iconst 0, 1) := by decide +kernel
theorem d_N_freeLocks_47 : decode b_N_freeLocks 47 = .ok (.istore 4, 2) := by decide +kernel
theorem d_N_freeLocks_49 : decode b_N_freeLocks 49 = .ok (.iload 4, 2) := by decide +kernel
theorem d_N_freeLocks_51 : decode b_N_freeLocks 51 = .ok (.ifCond .ne 34, 3) := by decide +kernel
theorem d_N_freeLocks_54 : decode b_N_freeLocks 54 = .ok (.aload_n 0, 1) := by decide +kernel
theorem d_N_freeLocks_55 : decode b_N_freeLocks 55 = .ok (.getfield 19, 3) := by decide +kernel
theorem d_N_freeLocks_58 : decode b_N_freeLocks 58 = .ok (.iload_n 3, 1) := by decide +kernel
theorem d_N_freeLocks_59 : decode b_N_freeLocks 59 = .ok (.aload_n 0, 1) := by decide +kernel
theorem d_N_freeLocks_60 : decode b_N_freeLocks 60 = .ok (.getfield 26, 3) := by decide +kernel
theorem d_N_freeLocks_63 : decode b_N_freeLocks 63 = .ok (.getfield 265, 3) := by decide +kernel
theorem d_N_freeLocks_66 : decode b_N_freeLocks 66 = .ok (.aload_n 0, 1) := by decide +kernel
theorem d_N_freeLocks_67 : decode b_N_freeLocks 67 = .ok (.getfield 12, 3) := by decide +kernel
theorem d_N_freeLocks_70 : decode b_N_freeLocks 70 = .ok (.getfield 273, 3) := by decide +kernel
theorem d_N_freeLocks_73 : decode b_N_freeLocks 73 = .ok (.iload_n 1, 1) := by decide +kernel
theorem d_N_freeLocks_74 : decode b_N_freeLocks 74 = .ok (.laload, 1) := by decide +kernel
theorem d_N_freeLocks_75 : decode b_N_freeLocks 75 = .ok (.invokevirtual 277, 3) := by decide +kernel
theorem d_N_freeLocks_78 : decode b_N_freeLocks 78 = .ok (.lconst 0, 1) := by decide +kernel
theorem d_N_freeLocks_79 : decode b_N_freeLocks 79 = .ok (.lcmp, 1) := by decide +kernel
theorem d_N_freeLocks_80 : decode b_N_freeLocks 80 = .ok (.ifCond .eq 5, 3) := by decide +kernel
theorem d_N_freeLocks_83 : decode b_N_freeLocks 83 = .ok (.iload_n 2, 1) := by decide +kernel
theorem d_N_freeLocks_84 : decode b_N_freeLocks 84 = .ok (.ireturn, 1) := by decide +kernel
theorem d_N_freeLocks_85 : decode b_N_freeLocks 85 = .ok (.iinc 2 1, 3) := by decide +kernel
theorem d_N_freeLocks_88 : decode b_N_freeLocks 88 = .ok (.goto (-86), 3) := by decide +kernel
theorem d_N_freeLocks_91 : decode b_N_freeLocks 91 = .ok (.aload_n 0, 1) := by decide +kernel
theorem d_N_freeLocks_92 : decode b_N_freeLocks 92 = .ok (.getfield 26, 3) := by decide +kernel
theorem d_N_freeLocks_95 : decode b_N_freeLocks 95 = .ok (.getfield 272, 3) := by decide +kernel
theorem d_N_freeLocks_98 : decode b_N_freeLocks 98 = .ok (.ireturn, 1) := by decide +kernel
theorem d_N_planLocks_0 : decode b_N_planLocks 0 = .ok (.aload_n 0, 1) := by decide +kernel
theorem d_N_planLocks_1 : decode b_N_planLocks 1 = .ok (.getfield 12, 3) := by decide +kernel
theorem d_N_planLocks_4 : decode b_N_planLocks 4 = .ok (.getfield 281, 3) := by decide +kernel
theorem d_N_planLocks_7 : decode b_N_planLocks 7 = .ok (.iload_n 1, 1) := by decide +kernel
theorem d_N_planLocks_8 : decode b_N_planLocks 8 = .ok (.iaload, 1) := by decide +kernel
theorem d_N_planLocks_9 : decode b_N_planLocks 9 = .ok (.istore_n 2, 1) := by decide +kernel
theorem d_N_planLocks_10 : decode b_N_planLocks 10 = .ok (.aload_n 0, 1) := by decide +kernel
theorem d_N_planLocks_11 : decode b_N_planLocks 11 = .ok (.getfield 12, 3) := by decide +kernel
theorem d_N_planLocks_14 : decode b_N_planLocks 14 = .ok (.getfield 284, 3) := by decide +kernel
theorem d_N_planLocks_17 : decode b_N_planLocks 17 = .ok (.iload_n 1, 1) := by decide +kernel
theorem d_N_planLocks_18 : decode b_N_planLocks 18 = .ok (.iaload, 1) := by decide +kernel
theorem d_N_planLocks_19 : decode b_N_planLocks 19 = .ok (.istore_n 3, 1) := by decide +kernel
theorem d_N_planLocks_20 : decode b_N_planLocks 20 = .ok (.aload_n 0, 1) := by decide +kernel
theorem d_N_planLocks_21 : decode b_N_planLocks 21 = .ok (.getfield 58, 3) := by decide +kernel
theorem d_N_planLocks_24 : decode b_N_planLocks 24 = .ok (.getfield 222, 3) := by decide +kernel
theorem d_N_planLocks_27 : decode b_N_planLocks 27 = .ok (.iload_n 2, 1) := by decide +kernel
theorem d_N_planLocks_28 : decode b_N_planLocks 28 = .ok (.baload, 1) := by decide +kernel
theorem d_N_planLocks_29 : decode b_N_planLocks 29 = .ok (.istore 4, 2) := by decide +kernel
theorem d_N_planLocks_31 : decode b_N_planLocks 31 = .ok (.aload_n 0, 1) := by decide +kernel
theorem d_N_planLocks_32 : decode b_N_planLocks 32 = .ok (.getfield 12, 3) := by decide +kernel
theorem d_N_planLocks_35 : decode b_N_planLocks 35 = .ok (.getfield 287, 3) := by decide +kernel
theorem d_N_planLocks_38 : decode b_N_planLocks 38 = .ok (.iload_n 1, 1) := by decide +kernel
theorem d_N_planLocks_39 : decode b_N_planLocks 39 = .ok (.iaload, 1) := by decide +kernel
theorem d_N_planLocks_40 : decode b_N_planLocks 40 = .ok (.tableswitch 150 0 2 #[28, 63, 102], 28) := by decide +kernel
theorem d_N_planLocks_68 : decode b_N_planLocks 68 = .ok (.aload_n 0, 1) := by decide +kernel
theorem d_N_planLocks_69 : decode b_N_planLocks 69 = .ok (.getfield 26, 3) := by decide +kernel
theorem d_N_planLocks_72 : decode b_N_planLocks 72 = .ok (.iconst 1, 1) := by decide +kernel
theorem d_N_planLocks_73 : decode b_N_planLocks 73 = .ok (.invokevirtual 288, 3) := by decide +kernel
theorem d_N_planLocks_76 : decode b_N_planLocks 76 = .ok (.aload_n 0, 1) := by decide +kernel
theorem d_N_planLocks_77 : decode b_N_planLocks 77 = .ok (.getfield 26, 3) := by decide +kernel
theorem d_N_planLocks_80 : decode b_N_planLocks 80 = .ok (.iload 4, 2) := by decide +kernel
theorem d_N_planLocks_82 : decode b_N_planLocks 82 = .ok (.ifCond .eq 7, 3) := by decide +kernel
theorem d_N_planLocks_85 : decode b_N_planLocks 85 = .ok (.iload_n 2, 1) := by decide +kernel
theorem d_N_planLocks_86 : decode b_N_planLocks 86 = .ok (.goto 11, 3) := by decide +kernel
theorem d_N_planLocks_89 : decode b_N_planLocks 89 = .ok (.aload_n 0, 1) := by decide +kernel
theorem d_N_planLocks_90 : decode b_N_planLocks 90 = .ok (.getfield 58, 3) := by decide +kernel
theorem d_N_planLocks_93 : decode b_N_planLocks 93 = .ok (.iload_n 2, 1) := by decide +kernel
theorem d_N_planLocks_94 : decode b_N_planLocks 94 = .ok (.invokevirtual 291, 3) := by decide +kernel
theorem d_N_planLocks_97 : decode b_N_planLocks 97 = .ok (.invokevirtual 294, 3) := by decide +kernel
theorem d_N_planLocks_100 : decode b_N_planLocks 100 = .ok (.goto 150, 3) := by decide +kernel
theorem d_N_planLocks_103 : decode b_N_planLocks 103 = .ok (.aload_n 0, 1) := by decide +kernel
theorem d_N_planLocks_104 : decode b_N_planLocks 104 = .ok (.getfield 26, 3) := by decide +kernel
theorem d_N_planLocks_107 : decode b_N_planLocks 107 = .ok (.iconst 2, 1) := by decide +kernel
theorem d_N_planLocks_108 : decode b_N_planLocks 108 = .ok (.invokevirtual 288, 3) := by decide +kernel
theorem d_N_planLocks_111 : decode b_N_planLocks 111 = .ok (.iload 4, 2) := by decide +kernel
theorem d_N_planLocks_113 : decode b_N_planLocks 113 = .ok (.ifCond .ne 18, 3) := by decide +kernel
theorem d_N_planLocks_116 : decode b_N_planLocks 116 = .ok (.aload_n 0, 1) := by decide +kernel
theorem d_N_planLocks_117 : decode b_N_planLocks 117 = .ok (.getfield 26, 3) := by decide +kernel
theorem d_N_planLocks_120 : decode b_N_planLocks 120 = .ok (.aload_n 0, 1) := by decide +kernel
theorem d_N_planLocks_121 : decode b_N_planLocks 121 = .ok (.getfield 58, 3) := by decide +kernel
theorem d_N_planLocks_124 : decode b_N_planLocks 124 = .ok (.iload_n 2, 1) := by decide +kernel
theorem d_N_planLocks_125 : decode b_N_planLocks 125 = .ok (.invokevirtual 291, 3) := by decide +kernel
theorem d_N_planLocks_128 : decode b_N_planLocks 128 = .ok (.invokevirtual 294, 3) := by decide +kernel
theorem d_N_planLocks_131 : decode b_N_planLocks 131 = .ok (.aload_n 0, 1) := by decide +kernel
theorem d_N_planLocks_132 : decode b_N_planLocks 132 = .ok (.getfield 26, 3) := by decide +kernel
theorem d_N_planLocks_135 : decode b_N_planLocks 135 = .ok (.iload_n 2, 1) := by decide +kernel
theorem d_N_planLocks_136 : decode b_N_planLocks 136 = .ok (.invokevirtual 294, 3) := by decide +kernel
theorem d_N_planLocks_139 : decode b_N_planLocks 139 = .ok (.goto 111, 3) := by decide +kernel
theorem d_N_planLocks_142 : decode b_N_planLocks 142 = .ok (.aload_n 0, 1) := by decide +kernel
theorem d_N_planLocks_143 : decode b_N_planLocks 143 = .ok (.getfield 26, 3) := by decide +kernel
theorem d_N_planLocks_146 : decode b_N_planLocks 146 = .ok (.iload 4, 2) := by decide +kernel
theorem d_N_planLocks_148 : decode b_N_planLocks 148 = .ok (.ifCond .eq 7, 3) := by decide +kernel
theorem d_N_planLocks_151 : decode b_N_planLocks 151 = .ok (.iconst 2, 1) := by decide +kernel
theorem d_N_planLocks_152 : decode b_N_planLocks 152 = .ok (.goto 4, 3) := by decide +kernel
theorem d_N_planLocks_155 : decode b_N_planLocks 155 = .ok (.iconst 1, 1) := by decide +kernel
theorem d_N_planLocks_156 : decode b_N_planLocks 156 = .ok (.invokevirtual 288, 3) := by decide +kernel
theorem d_N_planLocks_159 : decode b_N_planLocks 159 = .ok (.aload_n 0, 1) := by decide +kernel
theorem d_N_planLocks_160 : decode b_N_planLocks 160 = .ok (.getfield 26, 3) := by decide +kernel
theorem d_N_planLocks_163 : decode b_N_planLocks 163 = .ok (.aload_n 0, 1) := by decide +kernel
theorem d_N_planLocks_164 : decode b_N_planLocks 164 = .ok (.getfield 58, 3) := by decide +kernel
theorem d_N_planLocks_167 : decode b_N_planLocks 167 = .ok (.iload_n 2, 1) := by decide +kernel
theorem d_N_planLocks_168 : decode b_N_planLocks 168 = .ok (.invokevirtual 291, 3) := by decide +kernel
theorem d_N_planLocks_171 : decode b_N_planLocks 171 = .ok (.invokevirtual 294, 3) := by decide +kernel
theorem d_N_planLocks_174 : decode b_N_planLocks 174 = .ok (.iload 4, 2) := by decide +kernel
theorem d_N_planLocks_176 : decode b_N_planLocks 176 = .ok (.ifCond .eq 74, 3) := by decide +kernel
theorem d_N_planLocks_179 : decode b_N_planLocks 179 = .ok (.aload_n 0, 1) := by decide +kernel
theorem d_N_planLocks_180 : decode b_N_planLocks 180 = .ok (.getfield 26, 3) := by decide +kernel
theorem d_N_planLocks_183 : decode b_N_planLocks 183 = .ok (.iload_n 2, 1) := by decide +kernel
theorem d_N_planLocks_184 : decode b_N_planLocks 184 = .ok (.invokevirtual 294, 3) := by decide +kernel
theorem d_N_planLocks_187 : decode b_N_planLocks 187 = .ok (.goto 63, 3) := by decide +kernel
theorem d_N_planLocks_190 : decode b_N_planLocks 190 = .ok (.aload_n 0, 1) := by decide +kernel
theorem d_N_planLocks_191 : decode b_N_planLocks 191 = .ok (.getfield 26, 3) := by decide +kernel
theorem d_N_planLocks_194 : decode b_N_planLocks 194 = .ok (.iconst 1, 1) := by decide +kernel
theorem d_N_planLocks_195 : decode b_N_planLocks 195 = .ok (.invokevirtual 288, 3) := by decide +kernel
theorem d_N_planLocks_198 : decode b_N_planLocks 198 = .ok (.iload_n 2, 1) := by decide +kernel
theorem d_N_planLocks_199 : decode b_N_planLocks 199 = .ok (.istore 5, 2) := by decide +kernel
theorem d_N_planLocks_201 : decode b_N_planLocks 201 = .ok (.iload 5, 2) := by decide +kernel
theorem d_N_planLocks_203 : decode b_N_planLocks 203 = .ok (.iload_n 3, 1) := by decide +kernel
theorem d_N_planLocks_204 : decode b_N_planLocks 204 = .ok (.if_icmp .gt 31, 3) := by decide +kernel
theorem d_N_planLocks_207 : decode b_N_planLocks 207 = .ok (.aload_n 0, 1) := by decide +kernel
theorem d_N_planLocks_208 : decode b_N_planLocks 208 = .ok (.getfield 58, 3) := by decide +kernel
theorem d_N_planLocks_211 : decode b_N_planLocks 211 = .ok (.getfield 222, 3) := by decide +kernel
theorem d_N_planLocks_214 : decode b_N_planLocks 214 = .ok (.iload 5, 2) := by decide +kernel
theorem d_N_planLocks_216 : decode b_N_planLocks 216 = .ok (.baload, 1) := by decide +kernel
theorem d_N_planLocks_217 : decode b_N_planLocks 217 = .ok (.ifCond .eq 12, 3) := by decide +kernel
theorem d_N_planLocks_220 : decode b_N_planLocks 220 = .ok (.aload_n 0, 1) := by decide +kernel
theorem d_N_planLocks_221 : decode b_N_planLocks 221 = .ok (.getfield 26, 3) := by decide +kernel
theorem d_N_planLocks_224 : decode b_N_planLocks 224 = .ok (.iload 5, 2) := by decide +kernel
theorem d_N_planLocks_226 : decode b_N_planLocks 226 = .ok (.invokevirtual 294, 3) := by decide +kernel
theorem d_N_planLocks_229 : decode b_N_planLocks 229 = .ok (.iinc 5 1, 3) := by decide +kernel
theorem d_N_planLocks_232 : decode b_N_planLocks 232 = .ok (.goto (-31), 3) := by decide +kernel
theorem d_N_planLocks_235 : decode b_N_planLocks 235 = .ok (.aload_n 0, 1) := by decide +kernel
theorem d_N_planLocks_236 : decode b_N_planLocks 236 = .ok (.getfield 26, 3) := by decide +kernel
theorem d_N_planLocks_239 : decode b_N_planLocks 239 = .ok (.aload_n 0, 1) := by decide +kernel
theorem d_N_planLocks_240 : decode b_N_planLocks 240 = .ok (.getfield 58, 3) := by decide +kernel
theorem d_N_planLocks_243 : decode b_N_planLocks 243 = .ok (.iload_n 3, 1) := by decide +kernel
theorem d_N_planLocks_244 : decode b_N_planLocks 244 = .ok (.invokevirtual 291, 3) := by decide +kernel
theorem d_N_planLocks_247 : decode b_N_planLocks 247 = .ok (.invokevirtual 294, 3) := by decide +kernel
theorem d_N_planLocks_250 : decode b_N_planLocks 250 = .ok (.return_, 1) := by decide +kernel
theorem d_N_carryOut_0 : decode b_N_carryOut 0 = .ok (.aload_n 0, 1) := by decide +kernel
theorem d_N_carryOut_1 : decode b_N_carryOut 1 = .ok (.getfield 12, 3) := by decide +kernel
theorem d_N_carryOut_4 : decode b_N_carryOut 4 = .ok (.getfield 281, 3) := by decide +kernel
theorem d_N_carryOut_7 : decode b_N_carryOut 7 = .ok (.iload_n 1, 1) := by decide +kernel
theorem d_N_carryOut_8 : decode b_N_carryOut 8 = .ok (.iaload, 1) := by decide +kernel
theorem d_N_carryOut_9 : decode b_N_carryOut 9 = .ok (.istore_n 2, 1) := by decide +kernel
theorem d_N_carryOut_10 : decode b_N_carryOut 10 = .ok (.aload_n 0, 1) := by decide +kernel
theorem d_N_carryOut_11 : decode b_N_carryOut 11 = .ok (.getfield 12, 3) := by decide +kernel
theorem d_N_carryOut_14 : decode b_N_carryOut 14 = .ok (.getfield 287, 3) := by decide +kernel
theorem d_N_carryOut_17 : decode b_N_carryOut 17 = .ok (.iload_n 1, 1) := by decide +kernel
theorem d_N_carryOut_18 : decode b_N_carryOut 18 = .ok (.iaload, 1) := by decide +kernel
theorem d_N_carryOut_19 : decode b_N_carryOut 19 = .ok (.tableswitch 127 0 2 #[25, 65, 93], 25) := by decide +kernel
theorem d_N_carryOut_44 : decode b_N_carryOut 44 = .ok (.aload_n 0, 1) := by decide +kernel
theorem d_N_carryOut_45 : decode b_N_carryOut 45 = .ok (.getfield 58, 3) := by decide +kernel
theorem d_N_carryOut_48 : decode b_N_carryOut 48 = .ok (.iload_n 2, 1) := by decide +kernel
theorem d_N_carryOut_49 : decode b_N_carryOut 49 = .ok (.iconst 4, 1) := by decide +kernel
theorem d_N_carryOut_50 : decode b_N_carryOut 50 = .ok (.idiv, 1) := by decide +kernel
theorem d_N_carryOut_51 : decode b_N_carryOut 51 = .ok (.aload_n 0, 1) := by decide +kernel
theorem d_N_carryOut_52 : decode b_N_carryOut 52 = .ok (.getfield 40, 3) := by decide +kernel
theorem d_N_carryOut_55 : decode b_N_carryOut 55 = .ok (.invokevirtual 296, 3) := by decide +kernel
theorem d_N_carryOut_58 : decode b_N_carryOut 58 = .ok (.aload_n 0, 1) := by decide +kernel
theorem d_N_carryOut_59 : decode b_N_carryOut 59 = .ok (.aload_n 0, 1) := by decide +kernel
theorem d_N_carryOut_60 : decode b_N_carryOut 60 = .ok (.getfield 58, 3) := by decide +kernel
theorem d_N_carryOut_63 : decode b_N_carryOut 63 = .ok (.getfield 225, 3) := by decide +kernel
theorem d_N_carryOut_66 : decode b_N_carryOut 66 = .ok (.iload_n 2, 1) := by decide +kernel
theorem d_N_carryOut_67 : decode b_N_carryOut 67 = .ok (.iaload, 1) := by decide +kernel
theorem d_N_carryOut_68 : decode b_N_carryOut 68 = .ok (.putfield 100, 3) := by decide +kernel
theorem d_N_carryOut_71 : decode b_N_carryOut 71 = .ok (.aload_n 0, 1) := by decide +kernel
theorem d_N_carryOut_72 : decode b_N_carryOut 72 = .ok (.getfield 58, 3) := by decide +kernel
theorem d_N_carryOut_75 : decode b_N_carryOut 75 = .ok (.getfield 222, 3) := by decide +kernel
theorem d_N_carryOut_78 : decode b_N_carryOut 78 = .ok (.iload_n 2, 1) := by decide +kernel
theorem d_N_carryOut_79 : decode b_N_carryOut 79 = .ok (.baload, 1) := by decide +kernel
theorem d_N_carryOut_80 : decode b_N_carryOut 80 = .ok (.invokestatic 203, 3) := by decide +kernel
theorem d_N_carryOut_83 : decode b_N_carryOut 83 = .ok (.ireturn, 1) := by decide +kernel
theorem d_N_carryOut_84 : decode b_N_carryOut 84 = .ok (.aload_n 0, 1) := by decide +kernel
theorem d_N_carryOut_85 : decode b_N_carryOut 85 = .ok (.invokevirtual 74, 3) := by decide +kernel
theorem d_N_carryOut_88 : decode b_N_carryOut 88 = .ok (.ifCond .ne 6, 3) := by decide +kernel
theorem d_N_carryOut_91 : decode b_N_carryOut 91 = .ok (.bipush (-5), 2) := by decide +kernel
theorem d_N_carryOut_93 : decode b_N_carryOut 93 = .ok (.ireturn, 1) := by decide +kernel
theorem d_N_carryOut_94 : decode b_N_carryOut 94 = .ok (.aload_n 0, 1) := by decide +kernel
theorem d_N_carryOut_95 : decode b_N_carryOut 95 = .ok (.iload_n 1, 1) := by decide +kernel
theorem d_N_carryOut_96 : decode b_N_carryOut 96 = .ok (.iload_n 2, 1) := by decide +kernel
theorem d_N_carryOut_97 : decode b_N_carryOut 97 = .ok (.iconst 1, 1) := by decide +kernel
theorem d_N_carryOut_98 : decode b_N_carryOut 98 = .ok (.aload_n 0, 1) := by decide +kernel
theorem d_N_carryOut_99 : decode b_N_carryOut 99 = .ok (.getfield 12, 3) := by decide +kernel
theorem d_N_carryOut_102 : decode b_N_carryOut 102 = .ok (.getfield 299, 3) := by decide +kernel
theorem d_N_carryOut_105 : decode b_N_carryOut 105 = .ok (.iload_n 1, 1) := by decide +kernel
theorem d_N_carryOut_106 : decode b_N_carryOut 106 = .ok (.iaload, 1) := by decide +kernel
theorem d_N_carryOut_107 : decode b_N_carryOut 107 = .ok (.invokevirtual 300, 3) := by decide +kernel
theorem d_N_carryOut_110 : decode b_N_carryOut 110 = .ok (.iconst 0, 1) := by decide +kernel
theorem d_N_carryOut_111 : decode b_N_carryOut 111 = .ok (.ireturn, 1) := by decide +kernel
theorem d_N_carryOut_112 : decode b_N_carryOut 112 = .ok (.aload_n 0, 1) := by decide +kernel
theorem d_N_carryOut_113 : decode b_N_carryOut 113 = .ok (.getfield 58, 3) := by decide +kernel
theorem d_N_carryOut_116 : decode b_N_carryOut 116 = .ok (.getfield 222, 3) := by decide +kernel
theorem d_N_carryOut_119 : decode b_N_carryOut 119 = .ok (.iload_n 2, 1) := by decide +kernel
theorem d_N_carryOut_120 : decode b_N_carryOut 120 = .ok (.baload, 1) := by decide +kernel
theorem d_N_carryOut_121 : decode b_N_carryOut 121 = .ok (.ifCond .ne 5, 3) := by decide +kernel
theorem d_N_carryOut_124 : decode b_N_carryOut 124 = .ok (.iconst 0, 1) := by decide +kernel
theorem d_N_carryOut_125 : decode b_N_carryOut 125 = .ok (.ireturn, 1) := by decide +kernel
theorem d_N_carryOut_126 : decode b_N_carryOut 126 = .ok (.aload_n 0, 1) := by decide +kernel
theorem d_N_carryOut_127 : decode b_N_carryOut 127 = .ok (.invokevirtual 74, 3) := by decide +kernel
theorem d_N_carryOut_130 : decode b_N_carryOut 130 = .ok (.ifCond .ne 6, 3) := by decide +kernel
theorem d_N_carryOut_133 : decode b_N_carryOut 133 = .ok (.bipush (-5), 2) := by decide +kernel
theorem d_N_carryOut_135 : decode b_N_carryOut 135 = .ok (.ireturn, 1) := by decide +kernel
theorem d_N_carryOut_136 : decode b_N_carryOut 136 = .ok (.aload_n 0, 1) := by decide +kernel
theorem d_N_carryOut_137 : decode b_N_carryOut 137 = .ok (.iload_n 1, 1) := by decide +kernel
theorem d_N_carryOut_138 : decode b_N_carryOut 138 = .ok (.iload_n 2, 1) := by decide +kernel
theorem d_N_carryOut_139 : decode b_N_carryOut 139 = .ok (.iconst 0, 1) := by decide +kernel
theorem d_N_carryOut_140 : decode b_N_carryOut 140 = .ok (.iconst 0, 1) := by decide +kernel
theorem d_N_carryOut_141 : decode b_N_carryOut 141 = .ok (.invokevirtual 300, 3) := by decide +kernel
theorem d_N_carryOut_144 : decode b_N_carryOut 144 = .ok (.iconst 1, 1) := by decide +kernel
theorem d_N_carryOut_145 : decode b_N_carryOut 145 = .ok (.ireturn, 1) := by decide +kernel
theorem d_N_carryOut_146 : decode b_N_carryOut 146 = .ok (.aload_n 0, 1) := by decide +kernel
theorem d_N_carryOut_147 : decode b_N_carryOut 147 = .ok (.iload_n 2, 1) := by decide +kernel
theorem d_N_carryOut_148 : decode b_N_carryOut 148 = .ok (.aload_n 0, 1) := by decide +kernel
theorem d_N_carryOut_149 : decode b_N_carryOut 149 = .ok (.getfield 12, 3) := by decide +kernel
theorem d_N_carryOut_152 : decode b_N_carryOut 152 = .ok (.getfield 284, 3) := by decide +kernel
theorem d_N_carryOut_155 : decode b_N_carryOut 155 = .ok (.iload_n 1, 1) := by decide +kernel
theorem d_N_carryOut_156 : decode b_N_carryOut 156 = .ok (.iaload, 1) := by decide +kernel
theorem d_N_carryOut_157 : decode b_N_carryOut 157 = .ok (.invokevirtual 304, 3) := by decide +kernel
theorem d_N_carryOut_160 : decode b_N_carryOut 160 = .ok (.ireturn, 1) := by decide +kernel
theorem d_N_countAndSum_0 : decode b_N_countAndSum 0 = .ok (.iload_n 1, 1) := by decide +kernel
theorem d_N_countAndSum_1 : decode b_N_countAndSum 1 = .ok (.iconst 4, 1) := by decide +kernel
theorem d_N_countAndSum_2 : decode b_N_countAndSum 2 = .ok (.idiv, 1) := by decide +kernel
theorem d_N_countAndSum_3 : decode b_N_countAndSum 3 = .ok (.istore_n 3, 1) := by decide +kernel
theorem d_N_countAndSum_4 : decode b_N_countAndSum 4 = .ok (.iload_n 3, 1) := by decide +kernel
theorem d_N_countAndSum_5 : decode b_N_countAndSum 5 = .ok (.iload_n 2, 1) := by decide +kernel
theorem d_N_countAndSum_6 : decode b_N_countAndSum 6 = .ok (.iconst 4, 1) := by decide +kernel
theorem d_N_countAndSum_7 : decode b_N_countAndSum 7 = .ok (.idiv, 1) := by decide +kernel
theorem d_N_countAndSum_8 : decode b_N_countAndSum 8 = .ok (.if_icmp .gt 21, 3) := by decide +kernel
theorem d_N_countAndSum_11 : decode b_N_countAndSum 11 = .ok (.aload_n 0, 1) := by decide +kernel
theorem d_N_countAndSum_12 : decode b_N_countAndSum 12 = .ok (.getfield 58, 3) := by decide +kernel
theorem d_N_countAndSum_15 : decode b_N_countAndSum 15 = .ok (.iload_n 3, 1) := by decide +kernel
theorem d_N_countAndSum_16 : decode b_N_countAndSum 16 = .ok (.aload_n 0, 1) := by decide +kernel
theorem d_N_countAndSum_17 : decode b_N_countAndSum 17 = .ok (.getfield 40, 3) := by decide +kernel
theorem d_N_countAndSum_20 : decode b_N_countAndSum 20 = .ok (.invokevirtual 296, 3) := by decide +kernel
theorem d_N_countAndSum_23 : decode b_N_countAndSum 23 = .ok (.iinc 3 1, 3) := by decide +kernel
theorem d_N_countAndSum_26 : decode b_N_countAndSum 26 = .ok (.goto (-22), 3) := by decide +kernel
theorem d_N_countAndSum_29 : decode b_N_countAndSum 29 = .ok (.iconst 0, 1) := by decide +kernel
theorem d_N_countAndSum_30 : decode b_N_countAndSum 30 = .ok (.istore_n 3, 1) := by decide +kernel
theorem d_N_countAndSum_31 : decode b_N_countAndSum 31 = .ok (.iconst 0, 1) := by decide +kernel
theorem d_N_countAndSum_32 : decode b_N_countAndSum 32 = .ok (.istore 4, 2) := by decide +kernel
theorem d_N_countAndSum_34 : decode b_N_countAndSum 34 = .ok (.iload_n 1, 1) := by decide +kernel
theorem d_N_countAndSum_35 : decode b_N_countAndSum 35 = .ok (.istore 5, 2) := by decide +kernel
theorem d_N_countAndSum_37 : decode b_N_countAndSum 37 = .ok (.iload 5, 2) := by decide +kernel
theorem d_N_countAndSum_39 : decode b_N_countAndSum 39 = .ok (.iload_n 2, 1) := by decide +kernel
theorem d_N_countAndSum_40 : decode b_N_countAndSum 40 = .ok (.if_icmp .gt 40, 3) := by decide +kernel
theorem d_N_countAndSum_43 : decode b_N_countAndSum 43 = .ok (.aload_n 0, 1) := by decide +kernel
theorem d_N_countAndSum_44 : decode b_N_countAndSum 44 = .ok (.getfield 58, 3) := by decide +kernel
theorem d_N_countAndSum_47 : decode b_N_countAndSum 47 = .ok (.getfield 222, 3) := by decide +kernel
theorem d_N_countAndSum_50 : decode b_N_countAndSum 50 = .ok (.iload 5, 2) := by decide +kernel
theorem d_N_countAndSum_52 : decode b_N_countAndSum 52 = .ok (.baload, 1) := by decide +kernel
theorem d_N_countAndSum_53 : decode b_N_countAndSum 53 = .ok (.ifCond .eq 21, 3) := by decide +kernel
theorem d_N_countAndSum_56 : decode b_N_countAndSum 56 = .ok (.iinc 3 1, 3) := by decide +kernel
theorem d_N_countAndSum_59 : decode b_N_countAndSum 59 = .ok (.iload 4, 2) := by decide +kernel
theorem d_N_countAndSum_61 : decode b_N_countAndSum 61 = .ok (.aload_n 0, 1) := by decide +kernel
theorem d_N_countAndSum_62 : decode b_N_countAndSum 62 = .ok (.getfield 58, 3) := by decide +kernel
theorem d_N_countAndSum_65 : decode b_N_countAndSum 65 = .ok (.getfield 225, 3) := by decide +kernel
theorem d_N_countAndSum_68 : decode b_N_countAndSum 68 = .ok (.iload 5, 2) := by decide +kernel
theorem d_N_countAndSum_70 : decode b_N_countAndSum 70 = .ok (.iaload, 1) := by decide +kernel
theorem d_N_countAndSum_71 : decode b_N_countAndSum 71 = .ok (.iadd, 1) := by decide +kernel
theorem d_N_countAndSum_72 : decode b_N_countAndSum 72 = .ok (.istore 4, 2) := by decide +kernel
theorem d_N_countAndSum_74 : decode b_N_countAndSum 74 = .ok (.iinc 5 1, 3) := by decide +kernel
theorem d_N_countAndSum_77 : decode b_N_countAndSum 77 = .ok (.goto (-40), 3) := by decide +kernel
theorem d_N_countAndSum_80 : decode b_N_countAndSum 80 = .ok (.aload_n 0, 1) := by decide +kernel
theorem d_N_countAndSum_81 : decode b_N_countAndSum 81 = .ok (.iload 4, 2) := by decide +kernel
theorem d_N_countAndSum_83 : decode b_N_countAndSum 83 = .ok (.putfield 100, 3) := by decide +kernel
theorem d_N_countAndSum_86 : decode b_N_countAndSum 86 = .ok (.iload_n 3, 1) := by decide +kernel
theorem d_N_countAndSum_87 : decode b_N_countAndSum 87 = .ok (.ireturn, 1) := by decide +kernel
theorem d_N_update_0 : decode b_N_update 0 = .ok (.aload_n 0, 1) := by decide +kernel
theorem d_N_update_1 : decode b_N_update 1 = .ok (.getfield 40, 3) := by decide +kernel
theorem d_N_update_4 : decode b_N_update 4 = .ok (.iconst 2, 1) := by decide +kernel
theorem d_N_update_5 : decode b_N_update 5 = .ok (.iload_n 1, 1) := by decide +kernel
theorem d_N_update_6 : decode b_N_update 6 = .ok (.iload_n 2, 1) := by decide +kernel
theorem d_N_update_7 : decode b_N_update 7 = .ok (.invokevirtual 85, 3) := by decide +kernel
theorem d_N_update_10 : decode b_N_update 10 = .ok (.istore 5, 2) := by decide +kernel
theorem d_N_update_12 : decode b_N_update 12 = .ok (.aload_n 0, 1) := by decide +kernel
theorem d_N_update_13 : decode b_N_update 13 = .ok (.getfield 40, 3) := by decide +kernel
theorem d_N_update_16 : decode b_N_update 16 = .ok (.iload 5, 2) := by decide +kernel
theorem d_N_update_18 : decode b_N_update 18 = .ok (.aload_n 0, 1) := by decide +kernel
theorem d_N_update_19 : decode b_N_update 19 = .ok (.getfield 58, 3) := by decide +kernel
theorem d_N_update_22 : decode b_N_update 22 = .ok (.getfield 222, 3) := by decide +kernel
theorem d_N_update_25 : decode b_N_update 25 = .ok (.iload_n 2, 1) := by decide +kernel
theorem d_N_update_26 : decode b_N_update 26 = .ok (.baload, 1) := by decide +kernel
theorem d_N_update_27 : decode b_N_update 27 = .ok (.aload_n 0, 1) := by decide +kernel
theorem d_N_update_28 : decode b_N_update 28 = .ok (.getfield 58, 3) := by decide +kernel
theorem d_N_update_31 : decode b_N_update 31 = .ok (.getfield 225, 3) := by decide +kernel
theorem d_N_update_34 : decode b_N_update 34 = .ok (.iload_n 2, 1) := by decide +kernel
theorem d_N_update_35 : decode b_N_update 35 = .ok (.iaload, 1) := by decide +kernel
theorem d_N_update_36 : decode b_N_update 36 = .ok (.invokevirtual 307, 3) := by decide +kernel
theorem d_N_update_39 : decode b_N_update 39 = .ok (.aload_n 0, 1) := by decide +kernel
theorem d_N_update_40 : decode b_N_update 40 = .ok (.getfield 40, 3) := by decide +kernel
theorem d_N_update_43 : decode b_N_update 43 = .ok (.iload 5, 2) := by decide +kernel
theorem d_N_update_45 : decode b_N_update 45 = .ok (.iload_n 3, 1) := by decide +kernel
theorem d_N_update_46 : decode b_N_update 46 = .ok (.iload 4, 2) := by decide +kernel
theorem d_N_update_48 : decode b_N_update 48 = .ok (.invokevirtual 311, 3) := by decide +kernel
theorem d_N_update_51 : decode b_N_update 51 = .ok (.aload_n 0, 1) := by decide +kernel
theorem d_N_update_52 : decode b_N_update 52 = .ok (.getfield 58, 3) := by decide +kernel
theorem d_N_update_55 : decode b_N_update 55 = .ok (.iload_n 2, 1) := by decide +kernel
theorem d_N_update_56 : decode b_N_update 56 = .ok (.iconst 4, 1) := by decide +kernel
theorem d_N_update_57 : decode b_N_update 57 = .ok (.idiv, 1) := by decide +kernel
theorem d_N_update_58 : decode b_N_update 58 = .ok (.aload_n 0, 1) := by decide +kernel
theorem d_N_update_59 : decode b_N_update 59 = .ok (.getfield 40, 3) := by decide +kernel
theorem d_N_update_62 : decode b_N_update 62 = .ok (.invokevirtual 296, 3) := by decide +kernel
theorem d_N_update_65 : decode b_N_update 65 = .ok (.aload_n 0, 1) := by decide +kernel
theorem d_N_update_66 : decode b_N_update 66 = .ok (.getfield 58, 3) := by decide +kernel
theorem d_N_update_69 : decode b_N_update 69 = .ok (.iload_n 2, 1) := by decide +kernel
theorem d_N_update_70 : decode b_N_update 70 = .ok (.iload_n 3, 1) := by decide +kernel
theorem d_N_update_71 : decode b_N_update 71 = .ok (.iload 4, 2) := by decide +kernel
theorem d_N_update_73 : decode b_N_update 73 = .ok (.aload_n 0, 1) := by decide +kernel
theorem d_N_update_74 : decode b_N_update 74 = .ok (.getfield 40, 3) := by decide +kernel
theorem d_N_update_77 : decode b_N_update 77 = .ok (.iload 5, 2) := by decide +kernel
theorem d_N_update_79 : decode b_N_update 79 = .ok (.invokevirtual 314, 3) := by decide +kernel
theorem d_N_update_82 : decode b_N_update 82 = .ok (.invokevirtual 317, 3) := by decide +kernel
theorem d_N_update_85 : decode b_N_update 85 = .ok (.return_, 1) := by decide +kernel
theorem d_N_undo_0 : decode b_N_undo 0 = .ok (.aload_n 0, 1) := by decide +kernel
theorem d_N_undo_1 : decode b_N_undo 1 = .ok (.getfield 40, 3) := by decide +kernel
theorem d_N_undo_4 : decode b_N_undo 4 = .ok (.getfield 194, 3) := by decide +kernel
theorem d_N_undo_7 : decode b_N_undo 7 = .ok (.iload_n 1, 1) := by decide +kernel
theorem d_N_undo_8 : decode b_N_undo 8 = .ok (.iaload, 1) := by decide +kernel
theorem d_N_undo_9 : decode b_N_undo 9 = .ok (.istore_n 3, 1) := by decide +kernel
theorem d_N_undo_10 : decode b_N_undo 10 = .ok (.aload_n 0, 1) := by decide +kernel
theorem d_N_undo_11 : decode b_N_undo 11 = .ok (.getfield 40, 3) := by decide +kernel
theorem d_N_undo_14 : decode b_N_undo 14 = .ok (.getfield 200, 3) := by decide +kernel
theorem d_N_undo_17 : decode b_N_undo 17 = .ok (.iload_n 1, 1) := by decide +kernel
theorem d_N_undo_18 : decode b_N_undo 18 = .ok (.baload, 1) := by decide +kernel
theorem d_N_undo_19 : decode b_N_undo 19 = .ok (.istore 4, 2) := by decide +kernel
theorem d_N_undo_21 : decode b_N_undo 21 = .ok (.aload_n 0, 1) := by decide +kernel
theorem d_N_undo_22 : decode b_N_undo 22 = .ok (.getfield 40, 3) := by decide +kernel
theorem d_N_undo_25 : decode b_N_undo 25 = .ok (.getfield 321, 3) := by decide +kernel
theorem d_N_undo_28 : decode b_N_undo 28 = .ok (.iload_n 1, 1) := by decide +kernel
theorem d_N_undo_29 : decode b_N_undo 29 = .ok (.iaload, 1) := by decide +kernel
theorem d_N_undo_30 : decode b_N_undo 30 = .ok (.istore 5, 2) := by decide +kernel
theorem d_N_undo_32 : decode b_N_undo 32 = .ok (.aload_n 0, 1) := by decide +kernel
theorem d_N_undo_33 : decode b_N_undo 33 = .ok (.getfield 40, 3) := by decide +kernel
theorem d_N_undo_36 : decode b_N_undo 36 = .ok (.iconst 3, 1) := by decide +kernel
theorem d_N_undo_37 : decode b_N_undo 37 = .ok (.iload_n 2, 1) := by decide +kernel
theorem d_N_undo_38 : decode b_N_undo 38 = .ok (.iload_n 3, 1) := by decide +kernel
theorem d_N_undo_39 : decode b_N_undo 39 = .ok (.invokevirtual 85, 3) := by decide +kernel
theorem d_N_undo_42 : decode b_N_undo 42 = .ok (.istore 6, 2) := by decide +kernel
theorem d_N_undo_44 : decode b_N_undo 44 = .ok (.aload_n 0, 1) := by decide +kernel
theorem d_N_undo_45 : decode b_N_undo 45 = .ok (.getfield 40, 3) := by decide +kernel
theorem d_N_undo_48 : decode b_N_undo 48 = .ok (.iload 6, 2) := by decide +kernel
theorem d_N_undo_50 : decode b_N_undo 50 = .ok (.iload 4, 2) := by decide +kernel
theorem d_N_undo_52 : decode b_N_undo 52 = .ok (.iload 5, 2) := by decide +kernel
theorem d_N_undo_54 : decode b_N_undo 54 = .ok (.invokevirtual 311, 3) := by decide +kernel
theorem d_N_undo_57 : decode b_N_undo 57 = .ok (.aload_n 0, 1) := by decide +kernel
theorem d_N_undo_58 : decode b_N_undo 58 = .ok (.getfield 40, 3) := by decide +kernel
theorem d_N_undo_61 : decode b_N_undo 61 = .ok (.getfield 197, 3) := by decide +kernel
theorem d_N_undo_64 : decode b_N_undo 64 = .ok (.iload 6, 2) := by decide +kernel
theorem d_N_undo_66 : decode b_N_undo 66 = .ok (.aload_n 0, 1) := by decide +kernel
theorem d_N_undo_67 : decode b_N_undo 67 = .ok (.getfield 40, 3) := by decide +kernel
theorem d_N_undo_70 : decode b_N_undo 70 = .ok (.iload_n 1, 1) := by decide +kernel
theorem d_N_undo_71 : decode b_N_undo 71 = .ok (.invokevirtual 314, 3) := by decide +kernel
theorem d_N_undo_74 : decode b_N_undo 74 = .ok (.iastore, 1) := by decide +kernel
theorem d_N_undo_75 : decode b_N_undo 75 = .ok (.aload_n 0, 1) := by decide +kernel
theorem d_N_undo_76 : decode b_N_undo 76 = .ok (.getfield 40, 3) := by decide +kernel
theorem d_N_undo_79 : decode b_N_undo 79 = .ok (.getfield 324, 3) := by decide +kernel
theorem d_N_undo_82 : decode b_N_undo 82 = .ok (.iload_n 1, 1) := by decide +kernel
theorem d_N_undo_83 : decode b_N_undo 83 = .ok (.iconst 1, 1) := by decide +kernel
theorem d_N_undo_84 : decode b_N_undo 84 = .ok (.bastore, 1) := by decide +kernel
theorem d_N_undo_85 : decode b_N_undo 85 = .ok (.aload_n 0, 1) := by decide +kernel
theorem d_N_undo_86 : decode b_N_undo 86 = .ok (.getfield 58, 3) := by decide +kernel
theorem d_N_undo_89 : decode b_N_undo 89 = .ok (.iload_n 3, 1) := by decide +kernel
theorem d_N_undo_90 : decode b_N_undo 90 = .ok (.iconst 4, 1) := by decide +kernel
theorem d_N_undo_91 : decode b_N_undo 91 = .ok (.idiv, 1) := by decide +kernel
theorem d_N_undo_92 : decode b_N_undo 92 = .ok (.aload_n 0, 1) := by decide +kernel
theorem d_N_undo_93 : decode b_N_undo 93 = .ok (.getfield 40, 3) := by decide +kernel
theorem d_N_undo_96 : decode b_N_undo 96 = .ok (.invokevirtual 296, 3) := by decide +kernel
theorem d_N_undo_99 : decode b_N_undo 99 = .ok (.aload_n 0, 1) := by decide +kernel
theorem d_N_undo_100 : decode b_N_undo 100 = .ok (.getfield 58, 3) := by decide +kernel
theorem d_N_undo_103 : decode b_N_undo 103 = .ok (.iload_n 3, 1) := by decide +kernel
theorem d_N_undo_104 : decode b_N_undo 104 = .ok (.iload 4, 2) := by decide +kernel
theorem d_N_undo_106 : decode b_N_undo 106 = .ok (.iload 5, 2) := by decide +kernel
theorem d_N_undo_108 : decode b_N_undo 108 = .ok (.aload_n 0, 1) := by decide +kernel
theorem d_N_undo_109 : decode b_N_undo 109 = .ok (.getfield 40, 3) := by decide +kernel
theorem d_N_undo_112 : decode b_N_undo 112 = .ok (.iload 6, 2) := by decide +kernel
theorem d_N_undo_114 : decode b_N_undo 114 = .ok (.invokevirtual 314, 3) := by decide +kernel
theorem d_N_undo_117 : decode b_N_undo 117 = .ok (.invokevirtual 317, 3) := by decide +kernel
theorem d_N_undo_120 : decode b_N_undo 120 = .ok (.return_, 1) := by decide +kernel
theorem d_N_isOpen_0 : decode b_N_isOpen 0 = .ok (.aload_n 0, 1) := by decide +kernel
theorem d_N_isOpen_1 : decode b_N_isOpen 1 = .ok (.getfield 40, 3) := by decide +kernel
theorem d_N_isOpen_4 : decode b_N_isOpen 4 = .ok (.getfield 188, 3) := by decide +kernel
theorem d_N_isOpen_7 : decode b_N_isOpen 7 = .ok (.iload_n 1, 1) := by decide +kernel
theorem d_N_isOpen_8 : decode b_N_isOpen 8 = .ok (.iaload, 1) := by decide +kernel
theorem d_N_isOpen_9 : decode b_N_isOpen 9 = .ok (.iconst 2, 1) := by decide +kernel
theorem d_N_isOpen_10 : decode b_N_isOpen 10 = .ok (.if_icmp .ne 38, 3) := by decide +kernel
theorem d_N_isOpen_13 : decode b_N_isOpen 13 = .ok (.aload_n 0, 1) := by decide +kernel
theorem d_N_isOpen_14 : decode b_N_isOpen 14 = .ok (.getfield 40, 3) := by decide +kernel
theorem d_N_isOpen_17 : decode b_N_isOpen 17 = .ok (.getfield 324, 3) := by decide +kernel
theorem d_N_isOpen_20 : decode b_N_isOpen 20 = .ok (.iload_n 1, 1) := by decide +kernel
theorem d_N_isOpen_21 : decode b_N_isOpen 21 = .ok (.baload, 1) := by decide +kernel
theorem d_N_isOpen_22 : decode b_N_isOpen 22 = .ok (.ifCond .ne 26, 3) := by decide +kernel
theorem d_N_isOpen_25 : decode b_N_isOpen 25 = .ok (.aload_n 0, 1) := by decide +kernel
theorem d_N_isOpen_26 : decode b_N_isOpen 26 = .ok (.getfield 12, 3) := by decide +kernel
theorem d_N_isOpen_29 : decode b_N_isOpen 29 = .ok (.aload_n 0, 1) := by decide +kernel
theorem d_N_isOpen_30 : decode b_N_isOpen 30 = .ok (.getfield 40, 3) := by decide +kernel
theorem d_N_isOpen_33 : decode b_N_isOpen 33 = .ok (.getfield 191, 3) := by decide +kernel
theorem d_N_isOpen_36 : decode b_N_isOpen 36 = .ok (.iload_n 1, 1) := by decide +kernel
theorem d_N_isOpen_37 : decode b_N_isOpen 37 = .ok (.iaload, 1) := by decide +kernel
theorem d_N_isOpen_38 : decode b_N_isOpen 38 = .ok (.invokevirtual 327, 3) := by decide +kernel
theorem d_N_isOpen_41 : decode b_N_isOpen 41 = .ok (.ifCond .eq 7, 3) := by decide +kernel
theorem d_N_isOpen_44 : decode b_N_isOpen 44 = .ok (.iconst 1, 1) := by decide +kernel
theorem d_N_isOpen_45 : decode b_N_isOpen 45 = .ok (.goto 4, 3) := by decide +kernel
theorem d_N_isOpen_48 : decode b_N_isOpen 48 = .ok (.iconst 0, 1) := by decide +kernel
theorem d_N_isOpen_49 : decode b_N_isOpen 49 = .ok (.ireturn, 1) := by decide +kernel
theorem d_N_openUpdateCount_0 : decode b_N_openUpdateCount 0 = .ok (.iconst 0, 1) := by decide +kernel
theorem d_N_openUpdateCount_1 : decode b_N_openUpdateCount 1 = .ok (.istore_n 1, 1) := by decide +kernel
theorem d_N_openUpdateCount_2 : decode b_N_openUpdateCount 2 = .ok (.iconst 0, 1) := by decide +kernel
theorem d_N_openUpdateCount_3 : decode b_N_openUpdateCount 3 = .ok (.istore_n 2, 1) := by decide +kernel
theorem d_N_openUpdateCount_4 : decode b_N_openUpdateCount 4 = .ok (.iload_n 2, 1) := by decide +kernel
theorem d_N_openUpdateCount_5 : decode b_N_openUpdateCount 5 = .ok (.aload_n 0, 1) := by decide +kernel
theorem d_N_openUpdateCount_6 : decode b_N_openUpdateCount 6 = .ok (.getfield 40, 3) := by decide +kernel
theorem d_N_openUpdateCount_9 : decode b_N_openUpdateCount 9 = .ok (.getfield 213, 3) := by decide +kernel
theorem d_N_openUpdateCount_12 : decode b_N_openUpdateCount 12 = .ok (.if_icmp .ge 20, 3) := by decide +kernel
theorem d_N_openUpdateCount_15 : decode b_N_openUpdateCount 15 = .ok (.aload_n 0, 1) := by decide +kernel
theorem d_N_openUpdateCount_16 : decode b_N_openUpdateCount 16 = .ok (.iload_n 2, 1) := by decide +kernel
theorem d_N_openUpdateCount_17 : decode b_N_openUpdateCount 17 = .ok (.invokevirtual 330, 3) := by decide +kernel
theorem d_N_openUpdateCount_20 : decode b_N_openUpdateCount 20 = .ok (.ifCond .eq 6, 3) := by decide +kernel
theorem d_N_openUpdateCount_23 : decode b_N_openUpdateCount 23 = .ok (.iinc 1 1, 3) := by decide +kernel
theorem d_N_openUpdateCount_26 : decode b_N_openUpdateCount 26 = .ok (.iinc 2 1, 3) := by decide +kernel
theorem d_N_openUpdateCount_29 : decode b_N_openUpdateCount 29 = .ok (.goto (-25), 3) := by decide +kernel
theorem d_N_openUpdateCount_32 : decode b_N_openUpdateCount 32 = .ok (.iload_n 1, 1) := by decide +kernel
theorem d_N_openUpdateCount_33 : decode b_N_openUpdateCount 33 = .ok (.ireturn, 1) := by decide +kernel
theorem d_N_hasRoomForOne_0 : decode b_N_hasRoomForOne 0 = .ok (.aload_n 0, 1) := by decide +kernel
theorem d_N_hasRoomForOne_1 : decode b_N_hasRoomForOne 1 = .ok (.getfield 40, 3) := by decide +kernel
theorem d_N_hasRoomForOne_4 : decode b_N_hasRoomForOne 4 = .ok (.getfield 213, 3) := by decide +kernel
theorem d_N_hasRoomForOne_7 : decode b_N_hasRoomForOne 7 = .ok (.aload_n 0, 1) := by decide +kernel
theorem d_N_hasRoomForOne_8 : decode b_N_hasRoomForOne 8 = .ok (.invokevirtual 216, 3) := by decide +kernel
theorem d_N_hasRoomForOne_11 : decode b_N_hasRoomForOne 11 = .ok (.iadd, 1) := by decide +kernel
theorem d_N_hasRoomForOne_12 : decode b_N_hasRoomForOne 12 = .ok (.aload_n 0, 1) := by decide +kernel
theorem d_N_hasRoomForOne_13 : decode b_N_hasRoomForOne 13 = .ok (.getfield 12, 3) := by decide +kernel
theorem d_N_hasRoomForOne_16 : decode b_N_hasRoomForOne 16 = .ok (.invokevirtual 148, 3) := by decide +kernel
theorem d_N_hasRoomForOne_19 : decode b_N_hasRoomForOne 19 = .ok (.iadd, 1) := by decide +kernel
theorem d_N_hasRoomForOne_20 : decode b_N_hasRoomForOne 20 = .ok (.istore_n 1, 1) := by decide +kernel
theorem d_N_hasRoomForOne_21 : decode b_N_hasRoomForOne 21 = .ok (.iload_n 1, 1) := by decide +kernel
theorem d_N_hasRoomForOne_22 : decode b_N_hasRoomForOne 22 = .ok (.iconst 2, 1) := by decide +kernel
theorem d_N_hasRoomForOne_23 : decode b_N_hasRoomForOne 23 = .ok (.iadd, 1) := by decide +kernel
theorem d_N_hasRoomForOne_24 : decode b_N_hasRoomForOne 24 = .ok (.sipush 300, 3) := by decide +kernel
theorem d_N_hasRoomForOne_27 : decode b_N_hasRoomForOne 27 = .ok (.if_icmp .gt 7, 3) := by decide +kernel
theorem d_N_hasRoomForOne_30 : decode b_N_hasRoomForOne 30 = .ok (.iconst 1, 1) := by decide +kernel
theorem d_N_hasRoomForOne_31 : decode b_N_hasRoomForOne 31 = .ok (.goto 4, 3) := by decide +kernel
theorem d_N_hasRoomForOne_34 : decode b_N_hasRoomForOne 34 = .ok (.iconst 0, 1) := by decide +kernel
theorem d_N_hasRoomForOne_35 : decode b_N_hasRoomForOne 35 = .ok (.ireturn, 1) := by decide +kernel
theorem d_N_undoOpenUpdates_0 : decode b_N_undoOpenUpdates 0 = .ok (.iconst 0, 1) := by decide +kernel
theorem d_N_undoOpenUpdates_1 : decode b_N_undoOpenUpdates 1 = .ok (.istore_n 3, 1) := by decide +kernel
theorem d_N_undoOpenUpdates_2 : decode b_N_undoOpenUpdates 2 = .ok (.aload_n 0, 1) := by decide +kernel
theorem d_N_undoOpenUpdates_3 : decode b_N_undoOpenUpdates 3 = .ok (.getfield 40, 3) := by decide +kernel
theorem d_N_undoOpenUpdates_6 : decode b_N_undoOpenUpdates 6 = .ok (.getfield 213, 3) := by decide +kernel
theorem d_N_undoOpenUpdates_9 : decode b_N_undoOpenUpdates 9 = .ok (.iconst 1, 1) := by decide +kernel
theorem d_N_undoOpenUpdates_10 : decode b_N_undoOpenUpdates 10 = .ok (.isub, 1) := by decide +kernel
theorem d_N_undoOpenUpdates_11 : decode b_N_undoOpenUpdates 11 = .ok (.istore 4, 2) := by decide +kernel
theorem d_N_undoOpenUpdates_13 : decode b_N_undoOpenUpdates 13 = .ok (.iload 4, 2) := by decide +kernel
theorem d_N_undoOpenUpdates_15 : decode b_N_undoOpenUpdates 15 = .ok (.ifCond .lt 62, 3) := by decide +kernel
theorem d_N_undoOpenUpdates_18 : decode b_N_undoOpenUpdates 18 = .ok (.aload_n 0, 1) := by decide +kernel
theorem d_N_undoOpenUpdates_19 : decode b_N_undoOpenUpdates 19 = .ok (.getfield 40, 3) := by decide +kernel
theorem d_N_undoOpenUpdates_22 : decode b_N_undoOpenUpdates 22 = .ok (.iload 4, 2) := by decide +kernel
theorem d_N_undoOpenUpdates_24 : decode b_N_undoOpenUpdates 24 = .ok (.invokevirtual 314, 3) := by decide +kernel
theorem d_N_undoOpenUpdates_27 : decode b_N_undoOpenUpdates 27 = .ok (.iload_n 2, 1) := by decide +kernel
theorem d_N_undoOpenUpdates_28 : decode b_N_undoOpenUpdates 28 = .ok (.if_icmp .le 49, 3) := by decide +kernel
theorem d_N_undoOpenUpdates_31 : decode b_N_undoOpenUpdates 31 = .ok (.aload_n 0, 1) := by decide +kernel
theorem d_N_undoOpenUpdates_32 : decode b_N_undoOpenUpdates 32 = .ok (.iload 4, 2) := by decide +kernel
theorem d_N_undoOpenUpdates_34 : decode b_N_undoOpenUpdates 34 = .ok (.invokevirtual 330, 3) := by decide +kernel
theorem d_N_undoOpenUpdates_37 : decode b_N_undoOpenUpdates 37 = .ok (.ifCond .eq 34, 3) := by decide +kernel
theorem d_N_undoOpenUpdates_40 : decode b_N_undoOpenUpdates 40 = .ok (.aload_n 0, 1) := by decide +kernel
theorem d_N_undoOpenUpdates_41 : decode b_N_undoOpenUpdates 41 = .ok (.getfield 12, 3) := by decide +kernel
theorem d_N_undoOpenUpdates_44 : decode b_N_undoOpenUpdates 44 = .ok (.aload_n 0, 1) := by decide +kernel
theorem d_N_undoOpenUpdates_45 : decode b_N_undoOpenUpdates 45 = .ok (.getfield 40, 3) := by decide +kernel
theorem d_N_undoOpenUpdates_48 : decode b_N_undoOpenUpdates 48 = .ok (.getfield 191, 3) := by decide +kernel
theorem d_N_undoOpenUpdates_51 : decode b_N_undoOpenUpdates 51 = .ok (.iload 4, 2) := by decide +kernel
theorem d_N_undoOpenUpdates_53 : decode b_N_undoOpenUpdates 53 = .ok (.iaload, 1) := by decide +kernel
theorem d_N_undoOpenUpdates_54 : decode b_N_undoOpenUpdates 54 = .ok (.iload_n 1, 1) := by decide +kernel
theorem d_N_undoOpenUpdates_55 : decode b_N_undoOpenUpdates 55 = .ok (.invokevirtual 333, 3) := by decide +kernel
theorem d_N_undoOpenUpdates_58 : decode b_N_undoOpenUpdates 58 = .ok (.ifCond .eq 13, 3) := by decide +kernel
theorem d_N_undoOpenUpdates_61 : decode b_N_undoOpenUpdates 61 = .ok (.aload_n 0, 1) := by decide +kernel
theorem d_N_undoOpenUpdates_62 : decode b_N_undoOpenUpdates 62 = .ok (.iload 4, 2) := by decide +kernel
theorem d_N_undoOpenUpdates_64 : decode b_N_undoOpenUpdates 64 = .ok (.iload_n 1, 1) := by decide +kernel
theorem d_N_undoOpenUpdates_65 : decode b_N_undoOpenUpdates 65 = .ok (.invokevirtual 337, 3) := by decide +kernel
theorem d_N_undoOpenUpdates_68 : decode b_N_undoOpenUpdates 68 = .ok (.iinc 3 1, 3) := by decide +kernel
theorem d_N_undoOpenUpdates_71 : decode b_N_undoOpenUpdates 71 = .ok (.iinc 4 (-1), 3) := by decide +kernel
theorem d_N_undoOpenUpdates_74 : decode b_N_undoOpenUpdates 74 = .ok (.goto (-61), 3) := by decide +kernel
theorem d_N_undoOpenUpdates_77 : decode b_N_undoOpenUpdates 77 = .ok (.iload_n 3, 1) := by decide +kernel
theorem d_N_undoOpenUpdates_78 : decode b_N_undoOpenUpdates 78 = .ok (.ireturn, 1) := by decide +kernel
theorem d_N_abortWithDescendants_0 : decode b_N_abortWithDescendants 0 = .ok (.aload_n 0, 1) := by decide +kernel
theorem d_N_abortWithDescendants_1 : decode b_N_abortWithDescendants 1 = .ok (.iload_n 1, 1) := by decide +kernel
theorem d_N_abortWithDescendants_2 : decode b_N_abortWithDescendants 2 = .ok (.aload_n 0, 1) := by decide +kernel
theorem d_N_abortWithDescendants_3 : decode b_N_abortWithDescendants 3 = .ok (.getfield 12, 3) := by decide +kernel
theorem d_N_abortWithDescendants_6 : decode b_N_abortWithDescendants 6 = .ok (.getfield 128, 3) := by decide +kernel
theorem d_N_abortWithDescendants_9 : decode b_N_abortWithDescendants 9 = .ok (.iload_n 1, 1) := by decide +kernel
theorem d_N_abortWithDescendants_10 : decode b_N_abortWithDescendants 10 = .ok (.iaload, 1) := by decide +kernel
theorem d_N_abortWithDescendants_11 : decode b_N_abortWithDescendants 11 = .ok (.invokevirtual 134, 3) := by decide +kernel
theorem d_N_abortWithDescendants_14 : decode b_N_abortWithDescendants 14 = .ok (.istore_n 2, 1) := by decide +kernel
theorem d_N_abortWithDescendants_15 : decode b_N_abortWithDescendants 15 = .ok (.aload_n 0, 1) := by decide +kernel
theorem d_N_abortWithDescendants_16 : decode b_N_abortWithDescendants 16 = .ok (.getfield 12, 3) := by decide +kernel
theorem d_N_abortWithDescendants_19 : decode b_N_abortWithDescendants 19 = .ok (.getfield 70, 3) := by decide +kernel
theorem d_N_abortWithDescendants_22 : decode b_N_abortWithDescendants 22 = .ok (.iconst 1, 1) := by decide +kernel
theorem d_N_abortWithDescendants_23 : decode b_N_abortWithDescendants 23 = .ok (.isub, 1) := by decide +kernel
theorem d_N_abortWithDescendants_24 : decode b_N_abortWithDescendants 24 = .ok (.istore_n 3, 1) := by decide +kernel
theorem d_N_abortWithDescendants_25 : decode b_N_abortWithDescendants 25 = .ok (.iload_n 3, 1) := by decide +kernel
theorem d_N_abortWithDescendants_26 : decode b_N_abortWithDescendants 26 = .ok (.iload_n 1, 1) := by decide +kernel
theorem d_N_abortWithDescendants_27 : decode b_N_abortWithDescendants 27 = .ok (.if_icmp .lt 61, 3) := by decide +kernel
theorem d_N_abortWithDescendants_30 : decode b_N_abortWithDescendants 30 = .ok (.aload_n 0, 1) := by decide +kernel
theorem d_N_abortWithDescendants_31 : decode b_N_abortWithDescendants 31 = .ok (.getfield 12, 3) := by decide +kernel
theorem d_N_abortWithDescendants_34 : decode b_N_abortWithDescendants 34 = .ok (.iload_n 3, 1) := by decide +kernel
theorem d_N_abortWithDescendants_35 : decode b_N_abortWithDescendants 35 = .ok (.invokevirtual 122, 3) := by decide +kernel
theorem d_N_abortWithDescendants_38 : decode b_N_abortWithDescendants 38 = .ok (.ifCond .eq 44, 3) := by decide +kernel
theorem d_N_abortWithDescendants_41 : decode b_N_abortWithDescendants 41 = .ok (.aload_n 0, 1) := by decide +kernel
theorem d_N_abortWithDescendants_42 : decode b_N_abortWithDescendants 42 = .ok (.getfield 12, 3) := by decide +kernel
theorem d_N_abortWithDescendants_45 : decode b_N_abortWithDescendants 45 = .ok (.iload_n 3, 1) := by decide +kernel
theorem d_N_abortWithDescendants_46 : decode b_N_abortWithDescendants 46 = .ok (.iload_n 1, 1) := by decide +kernel
theorem d_N_abortWithDescendants_47 : decode b_N_abortWithDescendants 47 = .ok (.invokevirtual 333, 3) := by decide +kernel
theorem d_N_abortWithDescendants_50 : decode b_N_abortWithDescendants 50 = .ok (.ifCond .eq 32, 3) := by decide +kernel
theorem d_N_abortWithDescendants_53 : decode b_N_abortWithDescendants 53 = .ok (.aload_n 0, 1) := by decide +kernel
theorem d_N_abortWithDescendants_54 : decode b_N_abortWithDescendants 54 = .ok (.getfield 12, 3) := by decide +kernel
theorem d_N_abortWithDescendants_57 : decode b_N_abortWithDescendants 57 = .ok (.getfield 106, 3) := by decide +kernel
theorem d_N_abortWithDescendants_60 : decode b_N_abortWithDescendants 60 = .ok (.iload_n 3, 1) := by decide +kernel
theorem d_N_abortWithDescendants_61 : decode b_N_abortWithDescendants 61 = .ok (.iconst 4, 1) := by decide +kernel
theorem d_N_abortWithDescendants_62 : decode b_N_abortWithDescendants 62 = .ok (.iastore, 1) := by decide +kernel
theorem d_N_abortWithDescendants_63 : decode b_N_abortWithDescendants 63 = .ok (.aload_n 0, 1) := by decide +kernel
theorem d_N_abortWithDescendants_64 : decode b_N_abortWithDescendants 64 = .ok (.getfield 40, 3) := by decide +kernel
theorem d_N_abortWithDescendants_67 : decode b_N_abortWithDescendants 67 = .ok (.iconst 5, 1) := by decide +kernel
theorem d_N_abortWithDescendants_68 : decode b_N_abortWithDescendants 68 = .ok (.iload_n 3, 1) := by decide +kernel
theorem d_N_abortWithDescendants_69 : decode b_N_abortWithDescendants 69 = .ok (.iconst 0, 1) := by decide +kernel
theorem d_N_abortWithDescendants_70 : decode b_N_abortWithDescendants 70 = .ok (.invokevirtual 85, 3) := by decide +kernel
theorem d_N_abortWithDescendants_73 : decode b_N_abortWithDescendants 73 = .ok (.pop, 1) := by decide +kernel
theorem d_N_abortWithDescendants_74 : decode b_N_abortWithDescendants 74 = .ok (.aload_n 0, 1) := by decide +kernel
theorem d_N_abortWithDescendants_75 : decode b_N_abortWithDescendants 75 = .ok (.getfield 19, 3) := by decide +kernel
theorem d_N_abortWithDescendants_78 : decode b_N_abortWithDescendants 78 = .ok (.iload_n 3, 1) := by decide +kernel
theorem d_N_abortWithDescendants_79 : decode b_N_abortWithDescendants 79 = .ok (.invokevirtual 119, 3) := by decide +kernel
theorem d_N_abortWithDescendants_82 : decode b_N_abortWithDescendants 82 = .ok (.iinc 3 (-1), 3) := by decide +kernel
theorem d_N_abortWithDescendants_85 : decode b_N_abortWithDescendants 85 = .ok (.goto (-60), 3) := by decide +kernel
theorem d_N_abortWithDescendants_88 : decode b_N_abortWithDescendants 88 = .ok (.iload_n 2, 1) := by decide +kernel
theorem d_N_abortWithDescendants_89 : decode b_N_abortWithDescendants 89 = .ok (.ireturn, 1) := by decide +kernel
theorem d_N_victimOfCircle_0 : decode b_N_victimOfCircle 0 = .ok (.aload_n 0, 1) := by decide +kernel
theorem d_N_victimOfCircle_1 : decode b_N_victimOfCircle 1 = .ok (.getfield 12, 3) := by decide +kernel
theorem d_N_victimOfCircle_4 : decode b_N_victimOfCircle 4 = .ok (.iload_n 1, 1) := by decide +kernel
theorem d_N_victimOfCircle_5 : decode b_N_victimOfCircle 5 = .ok (.invokevirtual 122, 3) := by decide +kernel
theorem d_N_victimOfCircle_8 : decode b_N_victimOfCircle 8 = .ok (.ifCond .ne 5, 3) := by decide +kernel
theorem d_N_victimOfCircle_11 : decode b_N_victimOfCircle 11 = .ok (.iconst (-1), 1) := by decide +kernel
theorem d_N_victimOfCircle_12 : decode b_N_victimOfCircle 12 = .ok (.ireturn, 1) := by decide +kernel
theorem d_N_victimOfCircle_13 : decode b_N_victimOfCircle 13 = .ok (.iconst 0, 1) := by decide +kernel
theorem d_N_victimOfCircle_14 : decode b_N_victimOfCircle 14 = .ok (.istore_n 2, 1) := by decide +kernel
theorem d_N_victimOfCircle_15 : decode b_N_victimOfCircle 15 = .ok (.iload_n 2, 1) := by decide +kernel
theorem d_N_victimOfCircle_16 : decode b_N_victimOfCircle 16 = .ok (.aload_n 0, 1) := by decide +kernel
theorem d_N_victimOfCircle_17 : decode b_N_victimOfCircle 17 = .ok (.getfield 12, 3) := by decide +kernel
theorem d_N_victimOfCircle_20 : decode b_N_victimOfCircle 20 = .ok (.getfield 70, 3) := by decide +kernel
theorem d_N_victimOfCircle_23 : decode b_N_victimOfCircle 23 = .ok (.if_icmp .ge 23, 3) := by decide +kernel
theorem d_N_victimOfCircle_26 : decode b_N_victimOfCircle 26 = .ok (.aload_n 0, 1) := by decide +kernel
theorem d_N_victimOfCircle_27 : decode b_N_victimOfCircle 27 = .ok (.getfield 33, 3) := by decide +kernel
theorem d_N_victimOfCircle_30 : decode b_N_victimOfCircle 30 = .ok (.getfield 340, 3) := by decide +kernel
theorem d_N_victimOfCircle_33 : decode b_N_victimOfCircle 33 = .ok (.iload_n 2, 1) := by decide +kernel
theorem d_N_victimOfCircle_34 : decode b_N_victimOfCircle 34 = .ok (.aload_n 0, 1) := by decide +kernel
theorem d_N_victimOfCircle_35 : decode b_N_victimOfCircle 35 = .ok (.iload_n 2, 1) := by decide +kernel
theorem d_N_victimOfCircle_36 : decode b_N_victimOfCircle 36 = .ok (.invokevirtual 343, 3) := by decide +kernel
theorem d_N_victimOfCircle_39 : decode b_N_victimOfCircle 39 = .ok (.lastore, 1) := by decide +kernel
theorem d_N_victimOfCircle_40 : decode b_N_victimOfCircle 40 = .ok (.iinc 2 1, 3) := by decide +kernel
theorem d_N_victimOfCircle_43 : decode b_N_victimOfCircle 43 = .ok (.goto (-28), 3) := by decide +kernel
theorem d_N_victimOfCircle_46 : decode b_N_victimOfCircle 46 = .ok (.aload_n 0, 1) := by decide +kernel
theorem d_N_victimOfCircle_47 : decode b_N_victimOfCircle 47 = .ok (.getfield 33, 3) := by decide +kernel
theorem d_N_victimOfCircle_50 : decode b_N_victimOfCircle 50 = .ok (.iload_n 1, 1) := by decide +kernel
theorem d_N_victimOfCircle_51 : decode b_N_victimOfCircle 51 = .ok (.aload_n 0, 1) := by decide +kernel
theorem d_N_victimOfCircle_52 : decode b_N_victimOfCircle 52 = .ok (.getfield 12, 3) := by decide +kernel
theorem d_N_victimOfCircle_55 : decode b_N_victimOfCircle 55 = .ok (.getfield 70, 3) := by decide +kernel
theorem d_N_victimOfCircle_58 : decode b_N_victimOfCircle 58 = .ok (.invokevirtual 346, 3) := by decide +kernel
theorem d_N_victimOfCircle_61 : decode b_N_victimOfCircle 61 = .ok (.ireturn, 1) := by decide +kernel
theorem d_N_leadsOf_0 : decode b_N_leadsOf 0 = .ok (.aload_n 0, 1) := by decide +kernel
theorem d_N_leadsOf_1 : decode b_N_leadsOf 1 = .ok (.getfield 12, 3) := by decide +kernel
theorem d_N_leadsOf_4 : decode b_N_leadsOf 4 = .ok (.iload_n 1, 1) := by decide +kernel
theorem d_N_leadsOf_5 : decode b_N_leadsOf 5 = .ok (.invokevirtual 122, 3) := by decide +kernel
theorem d_N_leadsOf_8 : decode b_N_leadsOf 8 = .ok (.ifCond .ne 5, 3) := by decide +kernel
theorem d_N_leadsOf_11 : decode b_N_leadsOf 11 = .ok (.lconst 0, 1) := by decide +kernel
theorem d_N_leadsOf_12 : decode b_N_leadsOf 12 = .ok (.lreturn, 1) := by decide +kernel
theorem d_N_leadsOf_13 : decode b_N_leadsOf 13 = .ok (.aload_n 0, 1) := by decide +kernel
theorem d_N_leadsOf_14 : decode b_N_leadsOf 14 = .ok (.getfield 12, 3) := by decide +kernel
theorem d_N_leadsOf_17 : decode b_N_leadsOf 17 = .ok (.iload_n 1, 1) := by decide +kernel
theorem d_N_leadsOf_18 : decode b_N_leadsOf 18 = .ok (.invokevirtual 349, 3) := by decide +kernel
theorem d_N_leadsOf_21 : decode b_N_leadsOf 21 = .ok (.lstore_n 2, 1) := by decide +kernel
theorem d_N_leadsOf_22 : decode b_N_leadsOf 22 = .ok (.aload_n 0, 1) := by decide +kernel
theorem d_N_leadsOf_23 : decode b_N_leadsOf 23 = .ok (.getfield 12, 3) := by decide +kernel
theorem d_N_leadsOf_26 : decode b_N_leadsOf 26 = .ok (.iload_n 1, 1) := by decide +kernel
theorem d_N_leadsOf_27 : decode b_N_leadsOf 27 = .ok (.invokevirtual 97, 3) := by decide +kernel
theorem d_N_leadsOf_30 : decode b_N_leadsOf 30 = .ok (.ifCond .eq 13, 3) := by decide +kernel
theorem d_N_leadsOf_33 : decode b_N_leadsOf 33 = .ok (.lload_n 2, 1) := by decide +kernel
theorem d_N_leadsOf_34 : decode b_N_leadsOf 34 = .ok (.aload_n 0, 1) := by decide +kernel
theorem d_N_leadsOf_35 : decode b_N_leadsOf 35 = .ok (.iload_n 1, 1) := by decide +kernel
theorem d_N_leadsOf_36 : decode b_N_leadsOf 36 = .ok (.invokevirtual 178, 3) := by decide +kernel
theorem d_N_leadsOf_39 : decode b_N_leadsOf 39 = .ok (.lor, 1) := by decide +kernel
theorem d_N_leadsOf_40 : decode b_N_leadsOf 40 = .ok (.goto 4, 3) := by decide +kernel
theorem d_N_leadsOf_43 : decode b_N_leadsOf 43 = .ok (.lload_n 2, 1) := by decide +kernel
theorem d_N_leadsOf_44 : decode b_N_leadsOf 44 = .ok (.lreturn, 1) := by decide +kernel
theorem d_N_redoLog_0 : decode b_N_redoLog 0 = .ok (.iconst 0, 1) := by decide +kernel
theorem d_N_redoLog_1 : decode b_N_redoLog 1 = .ok (.istore_n 1, 1) := by decide +kernel
