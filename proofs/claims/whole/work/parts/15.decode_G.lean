theorem d_G_init_0 : decode b_G_init 0 = .ok (.aload_n 0, 1) := by decide +kernel
theorem d_G_init_1 : decode b_G_init 1 = .ok (.invokespecial 3, 3) := by decide +kernel
theorem d_G_init_4 : decode b_G_init 4 = .ok (.aload_n 0, 1) := by decide +kernel
theorem d_G_init_5 : decode b_G_init 5 = .ok (.sipush 300, 3) := by decide +kernel
theorem d_G_init_8 : decode b_G_init 8 = .ok (.newarray .int, 2) := by decide +kernel
theorem d_G_init_10 : decode b_G_init 10 = .ok (.putfield 9, 3) := by decide +kernel
theorem d_G_init_13 : decode b_G_init 13 = .ok (.aload_n 0, 1) := by decide +kernel
theorem d_G_init_14 : decode b_G_init 14 = .ok (.sipush 300, 3) := by decide +kernel
theorem d_G_init_17 : decode b_G_init 17 = .ok (.newarray .int, 2) := by decide +kernel
theorem d_G_init_19 : decode b_G_init 19 = .ok (.putfield 15, 3) := by decide +kernel
theorem d_G_init_22 : decode b_G_init 22 = .ok (.aload_n 0, 1) := by decide +kernel
theorem d_G_init_23 : decode b_G_init 23 = .ok (.sipush 300, 3) := by decide +kernel
theorem d_G_init_26 : decode b_G_init 26 = .ok (.newarray .int, 2) := by decide +kernel
theorem d_G_init_28 : decode b_G_init 28 = .ok (.putfield 18, 3) := by decide +kernel
theorem d_G_init_31 : decode b_G_init 31 = .ok (.aload_n 0, 1) := by decide +kernel
theorem d_G_init_32 : decode b_G_init 32 = .ok (.sipush 300, 3) := by decide +kernel
theorem d_G_init_35 : decode b_G_init 35 = .ok (.newarray .boolean, 2) := by decide +kernel
theorem d_G_init_37 : decode b_G_init 37 = .ok (.putfield 21, 3) := by decide +kernel
theorem d_G_init_40 : decode b_G_init 40 = .ok (.aload_n 0, 1) := by decide +kernel
theorem d_G_init_41 : decode b_G_init 41 = .ok (.sipush 300, 3) := by decide +kernel
theorem d_G_init_44 : decode b_G_init 44 = .ok (.newarray .int, 2) := by decide +kernel
theorem d_G_init_46 : decode b_G_init 46 = .ok (.putfield 25, 3) := by decide +kernel
theorem d_G_init_49 : decode b_G_init 49 = .ok (.aload_n 0, 1) := by decide +kernel
theorem d_G_init_50 : decode b_G_init 50 = .ok (.sipush 300, 3) := by decide +kernel
theorem d_G_init_53 : decode b_G_init 53 = .ok (.newarray .boolean, 2) := by decide +kernel
theorem d_G_init_55 : decode b_G_init 55 = .ok (.putfield 28, 3) := by decide +kernel
theorem d_G_init_58 : decode b_G_init 58 = .ok (.aload_n 0, 1) := by decide +kernel
theorem d_G_init_59 : decode b_G_init 59 = .ok (.sipush 300, 3) := by decide +kernel
theorem d_G_init_62 : decode b_G_init 62 = .ok (.newarray .int, 2) := by decide +kernel
theorem d_G_init_64 : decode b_G_init 64 = .ok (.putfield 31, 3) := by decide +kernel
theorem d_G_init_67 : decode b_G_init 67 = .ok (.aload_n 0, 1) := by decide +kernel
theorem d_G_init_68 : decode b_G_init 68 = .ok (.sipush 300, 3) := by decide +kernel
theorem d_G_init_71 : decode b_G_init 71 = .ok (.newarray .int, 2) := by decide +kernel
theorem d_G_init_73 : decode b_G_init 73 = .ok (.putfield 34, 3) := by decide +kernel
theorem d_G_init_76 : decode b_G_init 76 = .ok (.aload_n 0, 1) := by decide +kernel
theorem d_G_init_77 : decode b_G_init 77 = .ok (.sipush 300, 3) := by decide +kernel
theorem d_G_init_80 : decode b_G_init 80 = .ok (.newarray .boolean, 2) := by decide +kernel
theorem d_G_init_82 : decode b_G_init 82 = .ok (.putfield 37, 3) := by decide +kernel
theorem d_G_init_85 : decode b_G_init 85 = .ok (.return_, 1) := by decide +kernel
theorem d_G_last_0 : decode b_G_last 0 = .ok (.aload_n 0, 1) := by decide +kernel
theorem d_G_last_1 : decode b_G_last 1 = .ok (.getfield 40, 3) := by decide +kernel
theorem d_G_last_4 : decode b_G_last 4 = .ok (.aload_n 0, 1) := by decide +kernel
theorem d_G_last_5 : decode b_G_last 5 = .ok (.getfield 44, 3) := by decide +kernel
theorem d_G_last_8 : decode b_G_last 8 = .ok (.iadd, 1) := by decide +kernel
theorem d_G_last_9 : decode b_G_last 9 = .ok (.ireturn, 1) := by decide +kernel
theorem d_G_lsnOf_0 : decode b_G_lsnOf 0 = .ok (.aload_n 0, 1) := by decide +kernel
theorem d_G_lsnOf_1 : decode b_G_lsnOf 1 = .ok (.getfield 40, 3) := by decide +kernel
theorem d_G_lsnOf_4 : decode b_G_lsnOf 4 = .ok (.iconst 1, 1) := by decide +kernel
theorem d_G_lsnOf_5 : decode b_G_lsnOf 5 = .ok (.iadd, 1) := by decide +kernel
theorem d_G_lsnOf_6 : decode b_G_lsnOf 6 = .ok (.iload_n 1, 1) := by decide +kernel
theorem d_G_lsnOf_7 : decode b_G_lsnOf 7 = .ok (.iadd, 1) := by decide +kernel
theorem d_G_lsnOf_8 : decode b_G_lsnOf 8 = .ok (.ireturn, 1) := by decide +kernel
theorem d_G_rowOf_0 : decode b_G_rowOf 0 = .ok (.iload_n 1, 1) := by decide +kernel
theorem d_G_rowOf_1 : decode b_G_rowOf 1 = .ok (.aload_n 0, 1) := by decide +kernel
theorem d_G_rowOf_2 : decode b_G_rowOf 2 = .ok (.getfield 40, 3) := by decide +kernel
theorem d_G_rowOf_5 : decode b_G_rowOf 5 = .ok (.isub, 1) := by decide +kernel
theorem d_G_rowOf_6 : decode b_G_rowOf 6 = .ok (.iconst 1, 1) := by decide +kernel
theorem d_G_rowOf_7 : decode b_G_rowOf 7 = .ok (.isub, 1) := by decide +kernel
theorem d_G_rowOf_8 : decode b_G_rowOf 8 = .ok (.ireturn, 1) := by decide +kernel
theorem d_G_append_0 : decode b_G_append 0 = .ok (.aload_n 0, 1) := by decide +kernel
theorem d_G_append_1 : decode b_G_append 1 = .ok (.getfield 44, 3) := by decide +kernel
theorem d_G_append_4 : decode b_G_append 4 = .ok (.sipush 300, 3) := by decide +kernel
theorem d_G_append_7 : decode b_G_append 7 = .ok (.if_icmp .ge 13, 3) := by decide +kernel
theorem d_G_append_10 : decode b_G_append 10 = .ok (.aload_n 0, 1) := by decide +kernel
theorem d_G_append_11 : decode b_G_append 11 = .ok (.dup, 1) := by decide +kernel
theorem d_G_append_12 : decode b_G_append 12 = .ok (.getfield 44, 3) := by decide +kernel
theorem d_G_append_15 : decode b_G_append 15 = .ok (.iconst 1, 1) := by decide +kernel
theorem d_G_append_16 : decode b_G_append 16 = .ok (.iadd, 1) := by decide +kernel
theorem d_G_append_17 : decode b_G_append 17 = .ok (.putfield 44, 3) := by decide +kernel
theorem d_G_append_20 : decode b_G_append 20 = .ok (.aload_n 0, 1) := by decide +kernel
theorem d_G_append_21 : decode b_G_append 21 = .ok (.getfield 44, 3) := by decide +kernel
theorem d_G_append_24 : decode b_G_append 24 = .ok (.iconst 1, 1) := by decide +kernel
theorem d_G_append_25 : decode b_G_append 25 = .ok (.isub, 1) := by decide +kernel
theorem d_G_append_26 : decode b_G_append 26 = .ok (.istore 4, 2) := by decide +kernel
theorem d_G_append_28 : decode b_G_append 28 = .ok (.aload_n 0, 1) := by decide +kernel
theorem d_G_append_29 : decode b_G_append 29 = .ok (.getfield 9, 3) := by decide +kernel
theorem d_G_append_32 : decode b_G_append 32 = .ok (.iload 4, 2) := by decide +kernel
theorem d_G_append_34 : decode b_G_append 34 = .ok (.iload_n 1, 1) := by decide +kernel
theorem d_G_append_35 : decode b_G_append 35 = .ok (.iastore, 1) := by decide +kernel
theorem d_G_append_36 : decode b_G_append 36 = .ok (.aload_n 0, 1) := by decide +kernel
theorem d_G_append_37 : decode b_G_append 37 = .ok (.getfield 15, 3) := by decide +kernel
theorem d_G_append_40 : decode b_G_append 40 = .ok (.iload 4, 2) := by decide +kernel
theorem d_G_append_42 : decode b_G_append 42 = .ok (.iload_n 2, 1) := by decide +kernel
theorem d_G_append_43 : decode b_G_append 43 = .ok (.iastore, 1) := by decide +kernel
theorem d_G_append_44 : decode b_G_append 44 = .ok (.aload_n 0, 1) := by decide +kernel
theorem d_G_append_45 : decode b_G_append 45 = .ok (.getfield 18, 3) := by decide +kernel
theorem d_G_append_48 : decode b_G_append 48 = .ok (.iload 4, 2) := by decide +kernel
theorem d_G_append_50 : decode b_G_append 50 = .ok (.iload_n 3, 1) := by decide +kernel
theorem d_G_append_51 : decode b_G_append 51 = .ok (.iastore, 1) := by decide +kernel
theorem d_G_append_52 : decode b_G_append 52 = .ok (.aload_n 0, 1) := by decide +kernel
theorem d_G_append_53 : decode b_G_append 53 = .ok (.iload 4, 2) := by decide +kernel
theorem d_G_append_55 : decode b_G_append 55 = .ok (.iconst 0, 1) := by decide +kernel
theorem d_G_append_56 : decode b_G_append 56 = .ok (.iconst 0, 1) := by decide +kernel
theorem d_G_append_57 : decode b_G_append 57 = .ok (.invokevirtual 47, 3) := by decide +kernel
theorem d_G_append_60 : decode b_G_append 60 = .ok (.aload_n 0, 1) := by decide +kernel
theorem d_G_append_61 : decode b_G_append 61 = .ok (.iload 4, 2) := by decide +kernel
theorem d_G_append_63 : decode b_G_append 63 = .ok (.iconst 0, 1) := by decide +kernel
theorem d_G_append_64 : decode b_G_append 64 = .ok (.iconst 0, 1) := by decide +kernel
theorem d_G_append_65 : decode b_G_append 65 = .ok (.invokevirtual 51, 3) := by decide +kernel
theorem d_G_append_68 : decode b_G_append 68 = .ok (.aload_n 0, 1) := by decide +kernel
theorem d_G_append_69 : decode b_G_append 69 = .ok (.getfield 34, 3) := by decide +kernel
theorem d_G_append_72 : decode b_G_append 72 = .ok (.iload 4, 2) := by decide +kernel
theorem d_G_append_74 : decode b_G_append 74 = .ok (.iconst 0, 1) := by decide +kernel
theorem d_G_append_75 : decode b_G_append 75 = .ok (.iastore, 1) := by decide +kernel
theorem d_G_append_76 : decode b_G_append 76 = .ok (.aload_n 0, 1) := by decide +kernel
theorem d_G_append_77 : decode b_G_append 77 = .ok (.getfield 37, 3) := by decide +kernel
theorem d_G_append_80 : decode b_G_append 80 = .ok (.iload 4, 2) := by decide +kernel
theorem d_G_append_82 : decode b_G_append 82 = .ok (.iconst 0, 1) := by decide +kernel
theorem d_G_append_83 : decode b_G_append 83 = .ok (.bastore, 1) := by decide +kernel
theorem d_G_append_84 : decode b_G_append 84 = .ok (.iload 4, 2) := by decide +kernel
theorem d_G_append_86 : decode b_G_append 86 = .ok (.ireturn, 1) := by decide +kernel
theorem d_G_setBefore_0 : decode b_G_setBefore 0 = .ok (.aload_n 0, 1) := by decide +kernel
theorem d_G_setBefore_1 : decode b_G_setBefore 1 = .ok (.getfield 21, 3) := by decide +kernel
theorem d_G_setBefore_4 : decode b_G_setBefore 4 = .ok (.iload_n 1, 1) := by decide +kernel
theorem d_G_setBefore_5 : decode b_G_setBefore 5 = .ok (.iload_n 2, 1) := by decide +kernel
theorem d_G_setBefore_6 : decode b_G_setBefore 6 = .ok (.bastore, 1) := by decide +kernel
theorem d_G_setBefore_7 : decode b_G_setBefore 7 = .ok (.aload_n 0, 1) := by decide +kernel
theorem d_G_setBefore_8 : decode b_G_setBefore 8 = .ok (.getfield 25, 3) := by decide +kernel
theorem d_G_setBefore_11 : decode b_G_setBefore 11 = .ok (.iload_n 1, 1) := by decide +kernel
theorem d_G_setBefore_12 : decode b_G_setBefore 12 = .ok (.iload_n 3, 1) := by decide +kernel
theorem d_G_setBefore_13 : decode b_G_setBefore 13 = .ok (.iastore, 1) := by decide +kernel
theorem d_G_setBefore_14 : decode b_G_setBefore 14 = .ok (.return_, 1) := by decide +kernel
theorem d_G_setAfter_0 : decode b_G_setAfter 0 = .ok (.aload_n 0, 1) := by decide +kernel
theorem d_G_setAfter_1 : decode b_G_setAfter 1 = .ok (.getfield 28, 3) := by decide +kernel
theorem d_G_setAfter_4 : decode b_G_setAfter 4 = .ok (.iload_n 1, 1) := by decide +kernel
theorem d_G_setAfter_5 : decode b_G_setAfter 5 = .ok (.iload_n 2, 1) := by decide +kernel
theorem d_G_setAfter_6 : decode b_G_setAfter 6 = .ok (.bastore, 1) := by decide +kernel
theorem d_G_setAfter_7 : decode b_G_setAfter 7 = .ok (.aload_n 0, 1) := by decide +kernel
theorem d_G_setAfter_8 : decode b_G_setAfter 8 = .ok (.getfield 31, 3) := by decide +kernel
theorem d_G_setAfter_11 : decode b_G_setAfter 11 = .ok (.iload_n 1, 1) := by decide +kernel
theorem d_G_setAfter_12 : decode b_G_setAfter 12 = .ok (.iload_n 3, 1) := by decide +kernel
theorem d_G_setAfter_13 : decode b_G_setAfter 13 = .ok (.iastore, 1) := by decide +kernel
theorem d_G_setAfter_14 : decode b_G_setAfter 14 = .ok (.return_, 1) := by decide +kernel
theorem d_G_loseUnflushed_0 : decode b_G_loseUnflushed 0 = .ok (.aload_n 0, 1) := by decide +kernel
theorem d_G_loseUnflushed_1 : decode b_G_loseUnflushed 1 = .ok (.getfield 54, 3) := by decide +kernel
theorem d_G_loseUnflushed_4 : decode b_G_loseUnflushed 4 = .ok (.aload_n 0, 1) := by decide +kernel
theorem d_G_loseUnflushed_5 : decode b_G_loseUnflushed 5 = .ok (.getfield 40, 3) := by decide +kernel
theorem d_G_loseUnflushed_8 : decode b_G_loseUnflushed 8 = .ok (.isub, 1) := by decide +kernel
theorem d_G_loseUnflushed_9 : decode b_G_loseUnflushed 9 = .ok (.istore_n 1, 1) := by decide +kernel
theorem d_G_loseUnflushed_10 : decode b_G_loseUnflushed 10 = .ok (.iload_n 1, 1) := by decide +kernel
theorem d_G_loseUnflushed_11 : decode b_G_loseUnflushed 11 = .ok (.istore_n 2, 1) := by decide +kernel
theorem d_G_loseUnflushed_12 : decode b_G_loseUnflushed 12 = .ok (.iload_n 2, 1) := by decide +kernel
theorem d_G_loseUnflushed_13 : decode b_G_loseUnflushed 13 = .ok (.aload_n 0, 1) := by decide +kernel
theorem d_G_loseUnflushed_14 : decode b_G_loseUnflushed 14 = .ok (.getfield 44, 3) := by decide +kernel
theorem d_G_loseUnflushed_17 : decode b_G_loseUnflushed 17 = .ok (.if_icmp .ge 35, 3) := by decide +kernel
theorem d_G_loseUnflushed_20 : decode b_G_loseUnflushed 20 = .ok (.aload_n 0, 1) := by decide +kernel
theorem d_G_loseUnflushed_21 : decode b_G_loseUnflushed 21 = .ok (.getfield 9, 3) := by decide +kernel
theorem d_G_loseUnflushed_24 : decode b_G_loseUnflushed 24 = .ok (.iload_n 2, 1) := by decide +kernel
theorem d_G_loseUnflushed_25 : decode b_G_loseUnflushed 25 = .ok (.iaload, 1) := by decide +kernel
theorem d_G_loseUnflushed_26 : decode b_G_loseUnflushed 26 = .ok (.iconst 3, 1) := by decide +kernel
theorem d_G_loseUnflushed_27 : decode b_G_loseUnflushed 27 = .ok (.if_icmp .ne 19, 3) := by decide +kernel
theorem d_G_loseUnflushed_30 : decode b_G_loseUnflushed 30 = .ok (.aload_n 0, 1) := by decide +kernel
theorem d_G_loseUnflushed_31 : decode b_G_loseUnflushed 31 = .ok (.getfield 37, 3) := by decide +kernel
theorem d_G_loseUnflushed_34 : decode b_G_loseUnflushed 34 = .ok (.aload_n 0, 1) := by decide +kernel
theorem d_G_loseUnflushed_35 : decode b_G_loseUnflushed 35 = .ok (.aload_n 0, 1) := by decide +kernel
theorem d_G_loseUnflushed_36 : decode b_G_loseUnflushed 36 = .ok (.getfield 34, 3) := by decide +kernel
theorem d_G_loseUnflushed_39 : decode b_G_loseUnflushed 39 = .ok (.iload_n 2, 1) := by decide +kernel
theorem d_G_loseUnflushed_40 : decode b_G_loseUnflushed 40 = .ok (.iaload, 1) := by decide +kernel
theorem d_G_loseUnflushed_41 : decode b_G_loseUnflushed 41 = .ok (.invokevirtual 57, 3) := by decide +kernel
theorem d_G_loseUnflushed_44 : decode b_G_loseUnflushed 44 = .ok (.iconst 0, 1) := by decide +kernel
theorem d_G_loseUnflushed_45 : decode b_G_loseUnflushed 45 = .ok (.bastore, 1) := by decide +kernel
theorem d_G_loseUnflushed_46 : decode b_G_loseUnflushed 46 = .ok (.iinc 2 1, 3) := by decide +kernel
theorem d_G_loseUnflushed_49 : decode b_G_loseUnflushed 49 = .ok (.goto (-37), 3) := by decide +kernel
theorem d_G_loseUnflushed_52 : decode b_G_loseUnflushed 52 = .ok (.aload_n 0, 1) := by decide +kernel
theorem d_G_loseUnflushed_53 : decode b_G_loseUnflushed 53 = .ok (.iload_n 1, 1) := by decide +kernel
theorem d_G_loseUnflushed_54 : decode b_G_loseUnflushed 54 = .ok (.putfield 44, 3) := by decide +kernel
theorem d_G_loseUnflushed_57 : decode b_G_loseUnflushed 57 = .ok (.return_, 1) := by decide +kernel
theorem d_G_empty_0 : decode b_G_empty 0 = .ok (.aload_n 0, 1) := by decide +kernel
theorem d_G_empty_1 : decode b_G_empty 1 = .ok (.aload_n 0, 1) := by decide +kernel
theorem d_G_empty_2 : decode b_G_empty 2 = .ok (.invokevirtual 61, 3) := by decide +kernel
theorem d_G_empty_5 : decode b_G_empty 5 = .ok (.putfield 40, 3) := by decide +kernel
theorem d_G_empty_8 : decode b_G_empty 8 = .ok (.aload_n 0, 1) := by decide +kernel
theorem d_G_empty_9 : decode b_G_empty 9 = .ok (.iconst 0, 1) := by decide +kernel
theorem d_G_empty_10 : decode b_G_empty 10 = .ok (.putfield 44, 3) := by decide +kernel
theorem d_G_empty_13 : decode b_G_empty 13 = .ok (.aload_n 0, 1) := by decide +kernel
theorem d_G_empty_14 : decode b_G_empty 14 = .ok (.aload_n 0, 1) := by decide +kernel
theorem d_G_empty_15 : decode b_G_empty 15 = .ok (.getfield 40, 3) := by decide +kernel
theorem d_G_empty_18 : decode b_G_empty 18 = .ok (.putfield 54, 3) := by decide +kernel
theorem d_G_empty_21 : decode b_G_empty 21 = .ok (.return_, 1) := by decide +kernel
