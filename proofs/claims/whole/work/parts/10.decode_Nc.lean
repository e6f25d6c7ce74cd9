theorem d_N_redoLog_2 : decode b_N_redoLog 2 = .ok (.iload_n 1, 1) := by decide +kernel
theorem d_N_redoLog_3 : decode b_N_redoLog 3 = .ok (.aload_n 0, 1) := by decide +kernel
theorem d_N_redoLog_4 : decode b_N_redoLog 4 = .ok (.getfield 40, 3) := by decide +kernel
theorem d_N_redoLog_7 : decode b_N_redoLog 7 = .ok (.getfield 213, 3) := by decide +kernel
theorem d_N_redoLog_10 : decode b_N_redoLog 10 = .ok (.if_icmp .ge 40, 3) := by decide +kernel
theorem d_N_redoLog_13 : decode b_N_redoLog 13 = .ok (.aload_n 0, 1) := by decide +kernel
theorem d_N_redoLog_14 : decode b_N_redoLog 14 = .ok (.getfield 40, 3) := by decide +kernel
theorem d_N_redoLog_17 : decode b_N_redoLog 17 = .ok (.getfield 188, 3) := by decide +kernel
theorem d_N_redoLog_20 : decode b_N_redoLog 20 = .ok (.iload_n 1, 1) := by decide +kernel
theorem d_N_redoLog_21 : decode b_N_redoLog 21 = .ok (.iaload, 1) := by decide +kernel
theorem d_N_redoLog_22 : decode b_N_redoLog 22 = .ok (.iconst 2, 1) := by decide +kernel
theorem d_N_redoLog_23 : decode b_N_redoLog 23 = .ok (.if_icmp .eq 16, 3) := by decide +kernel
theorem d_N_redoLog_26 : decode b_N_redoLog 26 = .ok (.aload_n 0, 1) := by decide +kernel
theorem d_N_redoLog_27 : decode b_N_redoLog 27 = .ok (.getfield 40, 3) := by decide +kernel
theorem d_N_redoLog_30 : decode b_N_redoLog 30 = .ok (.getfield 188, 3) := by decide +kernel
theorem d_N_redoLog_33 : decode b_N_redoLog 33 = .ok (.iload_n 1, 1) := by decide +kernel
theorem d_N_redoLog_34 : decode b_N_redoLog 34 = .ok (.iaload, 1) := by decide +kernel
theorem d_N_redoLog_35 : decode b_N_redoLog 35 = .ok (.iconst 3, 1) := by decide +kernel
theorem d_N_redoLog_36 : decode b_N_redoLog 36 = .ok (.if_icmp .ne 8, 3) := by decide +kernel
theorem d_N_redoLog_39 : decode b_N_redoLog 39 = .ok (.aload_n 0, 1) := by decide +kernel
theorem d_N_redoLog_40 : decode b_N_redoLog 40 = .ok (.iload_n 1, 1) := by decide +kernel
theorem d_N_redoLog_41 : decode b_N_redoLog 41 = .ok (.invokevirtual 352, 3) := by decide +kernel
theorem d_N_redoLog_44 : decode b_N_redoLog 44 = .ok (.iinc 1 1, 3) := by decide +kernel
theorem d_N_redoLog_47 : decode b_N_redoLog 47 = .ok (.goto (-45), 3) := by decide +kernel
theorem d_N_redoLog_50 : decode b_N_redoLog 50 = .ok (.return_, 1) := by decide +kernel
theorem d_N_redo_0 : decode b_N_redo 0 = .ok (.aload_n 0, 1) := by decide +kernel
theorem d_N_redo_1 : decode b_N_redo 1 = .ok (.getfield 40, 3) := by decide +kernel
theorem d_N_redo_4 : decode b_N_redo 4 = .ok (.getfield 194, 3) := by decide +kernel
theorem d_N_redo_7 : decode b_N_redo 7 = .ok (.iload_n 1, 1) := by decide +kernel
theorem d_N_redo_8 : decode b_N_redo 8 = .ok (.iaload, 1) := by decide +kernel
theorem d_N_redo_9 : decode b_N_redo 9 = .ok (.istore_n 2, 1) := by decide +kernel
theorem d_N_redo_10 : decode b_N_redo 10 = .ok (.iload_n 2, 1) := by decide +kernel
theorem d_N_redo_11 : decode b_N_redo 11 = .ok (.iconst 4, 1) := by decide +kernel
theorem d_N_redo_12 : decode b_N_redo 12 = .ok (.idiv, 1) := by decide +kernel
theorem d_N_redo_13 : decode b_N_redo 13 = .ok (.istore_n 3, 1) := by decide +kernel
theorem d_N_redo_14 : decode b_N_redo 14 = .ok (.aload_n 0, 1) := by decide +kernel
theorem d_N_redo_15 : decode b_N_redo 15 = .ok (.getfield 58, 3) := by decide +kernel
theorem d_N_redo_18 : decode b_N_redo 18 = .ok (.iload_n 3, 1) := by decide +kernel
theorem d_N_redo_19 : decode b_N_redo 19 = .ok (.aload_n 0, 1) := by decide +kernel
theorem d_N_redo_20 : decode b_N_redo 20 = .ok (.getfield 40, 3) := by decide +kernel
theorem d_N_redo_23 : decode b_N_redo 23 = .ok (.invokevirtual 296, 3) := by decide +kernel
theorem d_N_redo_26 : decode b_N_redo 26 = .ok (.aload_n 0, 1) := by decide +kernel
theorem d_N_redo_27 : decode b_N_redo 27 = .ok (.getfield 58, 3) := by decide +kernel
theorem d_N_redo_30 : decode b_N_redo 30 = .ok (.getfield 240, 3) := by decide +kernel
theorem d_N_redo_33 : decode b_N_redo 33 = .ok (.iload_n 3, 1) := by decide +kernel
theorem d_N_redo_34 : decode b_N_redo 34 = .ok (.iaload, 1) := by decide +kernel
theorem d_N_redo_35 : decode b_N_redo 35 = .ok (.aload_n 0, 1) := by decide +kernel
theorem d_N_redo_36 : decode b_N_redo 36 = .ok (.getfield 40, 3) := by decide +kernel
theorem d_N_redo_39 : decode b_N_redo 39 = .ok (.iload_n 1, 1) := by decide +kernel
theorem d_N_redo_40 : decode b_N_redo 40 = .ok (.invokevirtual 314, 3) := by decide +kernel
theorem d_N_redo_43 : decode b_N_redo 43 = .ok (.if_icmp .ge 37, 3) := by decide +kernel
theorem d_N_redo_46 : decode b_N_redo 46 = .ok (.aload_n 0, 1) := by decide +kernel
theorem d_N_redo_47 : decode b_N_redo 47 = .ok (.getfield 58, 3) := by decide +kernel
theorem d_N_redo_50 : decode b_N_redo 50 = .ok (.iload_n 2, 1) := by decide +kernel
theorem d_N_redo_51 : decode b_N_redo 51 = .ok (.aload_n 0, 1) := by decide +kernel
theorem d_N_redo_52 : decode b_N_redo 52 = .ok (.getfield 40, 3) := by decide +kernel
theorem d_N_redo_55 : decode b_N_redo 55 = .ok (.getfield 207, 3) := by decide +kernel
theorem d_N_redo_58 : decode b_N_redo 58 = .ok (.iload_n 1, 1) := by decide +kernel
theorem d_N_redo_59 : decode b_N_redo 59 = .ok (.baload, 1) := by decide +kernel
theorem d_N_redo_60 : decode b_N_redo 60 = .ok (.aload_n 0, 1) := by decide +kernel
theorem d_N_redo_61 : decode b_N_redo 61 = .ok (.getfield 40, 3) := by decide +kernel
theorem d_N_redo_64 : decode b_N_redo 64 = .ok (.getfield 210, 3) := by decide +kernel
theorem d_N_redo_67 : decode b_N_redo 67 = .ok (.iload_n 1, 1) := by decide +kernel
theorem d_N_redo_68 : decode b_N_redo 68 = .ok (.iaload, 1) := by decide +kernel
theorem d_N_redo_69 : decode b_N_redo 69 = .ok (.aload_n 0, 1) := by decide +kernel
theorem d_N_redo_70 : decode b_N_redo 70 = .ok (.getfield 40, 3) := by decide +kernel
theorem d_N_redo_73 : decode b_N_redo 73 = .ok (.iload_n 1, 1) := by decide +kernel
theorem d_N_redo_74 : decode b_N_redo 74 = .ok (.invokevirtual 314, 3) := by decide +kernel
theorem d_N_redo_77 : decode b_N_redo 77 = .ok (.invokevirtual 317, 3) := by decide +kernel
theorem d_N_redo_80 : decode b_N_redo 80 = .ok (.return_, 1) := by decide +kernel
theorem d_N_undoUncommitted_0 : decode b_N_undoUncommitted 0 = .ok (.iconst 0, 1) := by decide +kernel
theorem d_N_undoUncommitted_1 : decode b_N_undoUncommitted 1 = .ok (.istore_n 1, 1) := by decide +kernel
theorem d_N_undoUncommitted_2 : decode b_N_undoUncommitted 2 = .ok (.aload_n 0, 1) := by decide +kernel
theorem d_N_undoUncommitted_3 : decode b_N_undoUncommitted 3 = .ok (.getfield 40, 3) := by decide +kernel
theorem d_N_undoUncommitted_6 : decode b_N_undoUncommitted 6 = .ok (.getfield 213, 3) := by decide +kernel
theorem d_N_undoUncommitted_9 : decode b_N_undoUncommitted 9 = .ok (.iconst 1, 1) := by decide +kernel
theorem d_N_undoUncommitted_10 : decode b_N_undoUncommitted 10 = .ok (.isub, 1) := by decide +kernel
theorem d_N_undoUncommitted_11 : decode b_N_undoUncommitted 11 = .ok (.istore_n 2, 1) := by decide +kernel
theorem d_N_undoUncommitted_12 : decode b_N_undoUncommitted 12 = .ok (.iload_n 2, 1) := by decide +kernel
theorem d_N_undoUncommitted_13 : decode b_N_undoUncommitted 13 = .ok (.ifCond .lt 74, 3) := by decide +kernel
theorem d_N_undoUncommitted_16 : decode b_N_undoUncommitted 16 = .ok (.aload_n 0, 1) := by decide +kernel
theorem d_N_undoUncommitted_17 : decode b_N_undoUncommitted 17 = .ok (.getfield 12, 3) := by decide +kernel
theorem d_N_undoUncommitted_20 : decode b_N_undoUncommitted 20 = .ok (.getfield 355, 3) := by decide +kernel
theorem d_N_undoUncommitted_23 : decode b_N_undoUncommitted 23 = .ok (.aload_n 0, 1) := by decide +kernel
theorem d_N_undoUncommitted_24 : decode b_N_undoUncommitted 24 = .ok (.getfield 40, 3) := by decide +kernel
theorem d_N_undoUncommitted_27 : decode b_N_undoUncommitted 27 = .ok (.getfield 191, 3) := by decide +kernel
theorem d_N_undoUncommitted_30 : decode b_N_undoUncommitted 30 = .ok (.iload_n 2, 1) := by decide +kernel
theorem d_N_undoUncommitted_31 : decode b_N_undoUncommitted 31 = .ok (.iaload, 1) := by decide +kernel
theorem d_N_undoUncommitted_32 : decode b_N_undoUncommitted 32 = .ok (.iaload, 1) := by decide +kernel
theorem d_N_undoUncommitted_33 : decode b_N_undoUncommitted 33 = .ok (.istore_n 3, 1) := by decide +kernel
theorem d_N_undoUncommitted_34 : decode b_N_undoUncommitted 34 = .ok (.aload_n 0, 1) := by decide +kernel
theorem d_N_undoUncommitted_35 : decode b_N_undoUncommitted 35 = .ok (.getfield 40, 3) := by decide +kernel
theorem d_N_undoUncommitted_38 : decode b_N_undoUncommitted 38 = .ok (.getfield 188, 3) := by decide +kernel
theorem d_N_undoUncommitted_41 : decode b_N_undoUncommitted 41 = .ok (.iload_n 2, 1) := by decide +kernel
theorem d_N_undoUncommitted_42 : decode b_N_undoUncommitted 42 = .ok (.iaload, 1) := by decide +kernel
theorem d_N_undoUncommitted_43 : decode b_N_undoUncommitted 43 = .ok (.iconst 2, 1) := by decide +kernel
theorem d_N_undoUncommitted_44 : decode b_N_undoUncommitted 44 = .ok (.if_icmp .ne 37, 3) := by decide +kernel
theorem d_N_undoUncommitted_47 : decode b_N_undoUncommitted 47 = .ok (.aload_n 0, 1) := by decide +kernel
theorem d_N_undoUncommitted_48 : decode b_N_undoUncommitted 48 = .ok (.getfield 40, 3) := by decide +kernel
theorem d_N_undoUncommitted_51 : decode b_N_undoUncommitted 51 = .ok (.getfield 324, 3) := by decide +kernel
theorem d_N_undoUncommitted_54 : decode b_N_undoUncommitted 54 = .ok (.iload_n 2, 1) := by decide +kernel
theorem d_N_undoUncommitted_55 : decode b_N_undoUncommitted 55 = .ok (.baload, 1) := by decide +kernel
theorem d_N_undoUncommitted_56 : decode b_N_undoUncommitted 56 = .ok (.ifCond .ne 25, 3) := by decide +kernel
theorem d_N_undoUncommitted_59 : decode b_N_undoUncommitted 59 = .ok (.aload_n 0, 1) := by decide +kernel
theorem d_N_undoUncommitted_60 : decode b_N_undoUncommitted 60 = .ok (.getfield 12, 3) := by decide +kernel
theorem d_N_undoUncommitted_63 : decode b_N_undoUncommitted 63 = .ok (.getfield 106, 3) := by decide +kernel
theorem d_N_undoUncommitted_66 : decode b_N_undoUncommitted 66 = .ok (.iload_n 3, 1) := by decide +kernel
theorem d_N_undoUncommitted_67 : decode b_N_undoUncommitted 67 = .ok (.iaload, 1) := by decide +kernel
theorem d_N_undoUncommitted_68 : decode b_N_undoUncommitted 68 = .ok (.iconst 3, 1) := by decide +kernel
theorem d_N_undoUncommitted_69 : decode b_N_undoUncommitted 69 = .ok (.if_icmp .eq 12, 3) := by decide +kernel
theorem d_N_undoUncommitted_72 : decode b_N_undoUncommitted 72 = .ok (.aload_n 0, 1) := by decide +kernel
theorem d_N_undoUncommitted_73 : decode b_N_undoUncommitted 73 = .ok (.iload_n 2, 1) := by decide +kernel
theorem d_N_undoUncommitted_74 : decode b_N_undoUncommitted 74 = .ok (.iload_n 3, 1) := by decide +kernel
theorem d_N_undoUncommitted_75 : decode b_N_undoUncommitted 75 = .ok (.invokevirtual 337, 3) := by decide +kernel
theorem d_N_undoUncommitted_78 : decode b_N_undoUncommitted 78 = .ok (.iinc 1 1, 3) := by decide +kernel
theorem d_N_undoUncommitted_81 : decode b_N_undoUncommitted 81 = .ok (.iinc 2 (-1), 3) := by decide +kernel
theorem d_N_undoUncommitted_84 : decode b_N_undoUncommitted 84 = .ok (.goto (-72), 3) := by decide +kernel
theorem d_N_undoUncommitted_87 : decode b_N_undoUncommitted 87 = .ok (.iload_n 1, 1) := by decide +kernel
theorem d_N_undoUncommitted_88 : decode b_N_undoUncommitted 88 = .ok (.ireturn, 1) := by decide +kernel
