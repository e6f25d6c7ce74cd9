theorem d_N_init_0 : decode b_N_init 0 = .ok (.aload_n 0, 1) := by decide +kernel
theorem d_N_init_1 : decode b_N_init 1 = .ok (.invokespecial 3, 3) := by decide +kernel
theorem d_N_init_4 : decode b_N_init 4 = .ok (.aload_n 0, 1) := by decide +kernel
theorem d_N_init_5 : decode b_N_init 5 = .ok (.new 9, 3) := by decide +kernel
theorem d_N_init_8 : decode b_N_init 8 = .ok (.dup, 1) := by decide +kernel
theorem d_N_init_9 : decode b_N_init 9 = .ok (.invokespecial 11, 3) := by decide +kernel
theorem d_N_init_12 : decode b_N_init 12 = .ok (.putfield 12, 3) := by decide +kernel
theorem d_N_init_15 : decode b_N_init 15 = .ok (.aload_n 0, 1) := by decide +kernel
theorem d_N_init_16 : decode b_N_init 16 = .ok (.new 16, 3) := by decide +kernel
theorem d_N_init_19 : decode b_N_init 19 = .ok (.dup, 1) := by decide +kernel
theorem d_N_init_20 : decode b_N_init 20 = .ok (.invokespecial 18, 3) := by decide +kernel
theorem d_N_init_23 : decode b_N_init 23 = .ok (.putfield 19, 3) := by decide +kernel
theorem d_N_init_26 : decode b_N_init 26 = .ok (.aload_n 0, 1) := by decide +kernel
theorem d_N_init_27 : decode b_N_init 27 = .ok (.new 23, 3) := by decide +kernel
theorem d_N_init_30 : decode b_N_init 30 = .ok (.dup, 1) := by decide +kernel
theorem d_N_init_31 : decode b_N_init 31 = .ok (.invokespecial 25, 3) := by decide +kernel
theorem d_N_init_34 : decode b_N_init 34 = .ok (.putfield 26, 3) := by decide +kernel
theorem d_N_init_37 : decode b_N_init 37 = .ok (.aload_n 0, 1) := by decide +kernel
theorem d_N_init_38 : decode b_N_init 38 = .ok (.new 30, 3) := by decide +kernel
theorem d_N_init_41 : decode b_N_init 41 = .ok (.dup, 1) := by decide +kernel
theorem d_N_init_42 : decode b_N_init 42 = .ok (.invokespecial 32, 3) := by decide +kernel
theorem d_N_init_45 : decode b_N_init 45 = .ok (.putfield 33, 3) := by decide +kernel
theorem d_N_init_48 : decode b_N_init 48 = .ok (.aload_n 0, 1) := by decide +kernel
theorem d_N_init_49 : decode b_N_init 49 = .ok (.new 37, 3) := by decide +kernel
theorem d_N_init_52 : decode b_N_init 52 = .ok (.dup, 1) := by decide +kernel
theorem d_N_init_53 : decode b_N_init 53 = .ok (.invokespecial 39, 3) := by decide +kernel
theorem d_N_init_56 : decode b_N_init 56 = .ok (.putfield 40, 3) := by decide +kernel
theorem d_N_init_59 : decode b_N_init 59 = .ok (.aload_n 0, 1) := by decide +kernel
theorem d_N_init_60 : decode b_N_init 60 = .ok (.new 44, 3) := by decide +kernel
theorem d_N_init_63 : decode b_N_init 63 = .ok (.dup, 1) := by decide +kernel
theorem d_N_init_64 : decode b_N_init 64 = .ok (.iconst 1, 1) := by decide +kernel
theorem d_N_init_65 : decode b_N_init 65 = .ok (.bipush 8, 2) := by decide +kernel
theorem d_N_init_67 : decode b_N_init 67 = .ok (.iload_n 1, 1) := by decide +kernel
theorem d_N_init_68 : decode b_N_init 68 = .ok (.invokestatic 46, 3) := by decide +kernel
theorem d_N_init_71 : decode b_N_init 71 = .ok (.invokestatic 52, 3) := by decide +kernel
theorem d_N_init_74 : decode b_N_init 74 = .ok (.invokespecial 55, 3) := by decide +kernel
theorem d_N_init_77 : decode b_N_init 77 = .ok (.putfield 58, 3) := by decide +kernel
theorem d_N_init_80 : decode b_N_init 80 = .ok (.return_, 1) := by decide +kernel
theorem d_N_begin_0 : decode b_N_begin 0 = .ok (.iload_n 1, 1) := by decide +kernel
theorem d_N_begin_1 : decode b_N_begin 1 = .ok (.iconst (-1), 1) := by decide +kernel
theorem d_N_begin_2 : decode b_N_begin 2 = .ok (.if_icmp .eq 27, 3) := by decide +kernel
theorem d_N_begin_5 : decode b_N_begin 5 = .ok (.aload_n 0, 1) := by decide +kernel
theorem d_N_begin_6 : decode b_N_begin 6 = .ok (.getfield 12, 3) := by decide +kernel
theorem d_N_begin_9 : decode b_N_begin 9 = .ok (.iload_n 1, 1) := by decide +kernel
theorem d_N_begin_10 : decode b_N_begin 10 = .ok (.invokevirtual 62, 3) := by decide +kernel
theorem d_N_begin_13 : decode b_N_begin 13 = .ok (.ifCond .eq 20, 3) := by decide +kernel
theorem d_N_begin_16 : decode b_N_begin 16 = .ok (.aload_n 0, 1) := by decide +kernel
theorem d_N_begin_17 : decode b_N_begin 17 = .ok (.getfield 12, 3) := by decide +kernel
theorem d_N_begin_20 : decode b_N_begin 20 = .ok (.getfield 66, 3) := by decide +kernel
theorem d_N_begin_23 : decode b_N_begin 23 = .ok (.iload_n 1, 1) := by decide +kernel
theorem d_N_begin_24 : decode b_N_begin 24 = .ok (.iaload, 1) := by decide +kernel
theorem d_N_begin_25 : decode b_N_begin 25 = .ok (.iconst 4, 1) := by decide +kernel
theorem d_N_begin_26 : decode b_N_begin 26 = .ok (.if_icmp .ge 7, 3) := by decide +kernel
theorem d_N_begin_29 : decode b_N_begin 29 = .ok (.iconst 1, 1) := by decide +kernel
theorem d_N_begin_30 : decode b_N_begin 30 = .ok (.goto 4, 3) := by decide +kernel
theorem d_N_begin_33 : decode b_N_begin 33 = .ok (.iconst 0, 1) := by decide +kernel
theorem d_N_begin_34 : decode b_N_begin 34 = .ok (.istore_n 2, 1) := by decide +kernel
theorem d_N_begin_35 : decode b_N_begin 35 = .ok (.iload_n 2, 1) := by decide +kernel
theorem d_N_begin_36 : decode b_N_begin 36 = .ok (.ifCond .eq 15, 3) := by decide +kernel
theorem d_N_begin_39 : decode b_N_begin 39 = .ok (.aload_n 0, 1) := by decide +kernel
theorem d_N_begin_40 : decode b_N_begin 40 = .ok (.getfield 12, 3) := by decide +kernel
theorem d_N_begin_43 : decode b_N_begin 43 = .ok (.getfield 70, 3) := by decide +kernel
theorem d_N_begin_46 : decode b_N_begin 46 = .ok (.bipush 60, 2) := by decide +kernel
theorem d_N_begin_48 : decode b_N_begin 48 = .ok (.if_icmp .lt 5, 3) := by decide +kernel
theorem d_N_begin_51 : decode b_N_begin 51 = .ok (.iconst (-1), 1) := by decide +kernel
theorem d_N_begin_52 : decode b_N_begin 52 = .ok (.ireturn, 1) := by decide +kernel
theorem d_N_begin_53 : decode b_N_begin 53 = .ok (.aload_n 0, 1) := by decide +kernel
theorem d_N_begin_54 : decode b_N_begin 54 = .ok (.invokevirtual 74, 3) := by decide +kernel
theorem d_N_begin_57 : decode b_N_begin 57 = .ok (.ifCond .ne 6, 3) := by decide +kernel
theorem d_N_begin_60 : decode b_N_begin 60 = .ok (.bipush (-5), 2) := by decide +kernel
theorem d_N_begin_62 : decode b_N_begin 62 = .ok (.ireturn, 1) := by decide +kernel
theorem d_N_begin_63 : decode b_N_begin 63 = .ok (.aload_n 0, 1) := by decide +kernel
theorem d_N_begin_64 : decode b_N_begin 64 = .ok (.getfield 12, 3) := by decide +kernel
theorem d_N_begin_67 : decode b_N_begin 67 = .ok (.iload_n 1, 1) := by decide +kernel
theorem d_N_begin_68 : decode b_N_begin 68 = .ok (.aload_n 0, 1) := by decide +kernel
theorem d_N_begin_69 : decode b_N_begin 69 = .ok (.getfield 40, 3) := by decide +kernel
theorem d_N_begin_72 : decode b_N_begin 72 = .ok (.invokevirtual 78, 3) := by decide +kernel
theorem d_N_begin_75 : decode b_N_begin 75 = .ok (.iconst 1, 1) := by decide +kernel
theorem d_N_begin_76 : decode b_N_begin 76 = .ok (.iadd, 1) := by decide +kernel
theorem d_N_begin_77 : decode b_N_begin 77 = .ok (.invokevirtual 82, 3) := by decide +kernel
theorem d_N_begin_80 : decode b_N_begin 80 = .ok (.istore_n 3, 1) := by decide +kernel
theorem d_N_begin_81 : decode b_N_begin 81 = .ok (.aload_n 0, 1) := by decide +kernel
theorem d_N_begin_82 : decode b_N_begin 82 = .ok (.getfield 40, 3) := by decide +kernel
theorem d_N_begin_85 : decode b_N_begin 85 = .ok (.iconst 1, 1) := by decide +kernel
theorem d_N_begin_86 : decode b_N_begin 86 = .ok (.iload_n 3, 1) := by decide +kernel
theorem d_N_begin_87 : decode b_N_begin 87 = .ok (.iload_n 1, 1) := by decide +kernel
theorem d_N_begin_88 : decode b_N_begin 88 = .ok (.invokevirtual 85, 3) := by decide +kernel
theorem d_N_begin_91 : decode b_N_begin 91 = .ok (.pop, 1) := by decide +kernel
theorem d_N_begin_92 : decode b_N_begin 92 = .ok (.iload_n 3, 1) := by decide +kernel
theorem d_N_begin_93 : decode b_N_begin 93 = .ok (.ireturn, 1) := by decide +kernel
theorem d_N_get_0 : decode b_N_get 0 = .ok (.aload_n 0, 1) := by decide +kernel
theorem d_N_get_1 : decode b_N_get 1 = .ok (.iload_n 1, 1) := by decide +kernel
theorem d_N_get_2 : decode b_N_get 2 = .ok (.iconst 0, 1) := by decide +kernel
theorem d_N_get_3 : decode b_N_get 3 = .ok (.iload_n 2, 1) := by decide +kernel
theorem d_N_get_4 : decode b_N_get 4 = .ok (.iload_n 2, 1) := by decide +kernel
theorem d_N_get_5 : decode b_N_get 5 = .ok (.iconst 0, 1) := by decide +kernel
theorem d_N_get_6 : decode b_N_get 6 = .ok (.invokevirtual 89, 3) := by decide +kernel
theorem d_N_get_9 : decode b_N_get 9 = .ok (.istore_n 3, 1) := by decide +kernel
theorem d_N_get_10 : decode b_N_get 10 = .ok (.iload_n 3, 1) := by decide +kernel
theorem d_N_get_11 : decode b_N_get 11 = .ok (.ifCond .eq 7, 3) := by decide +kernel
theorem d_N_get_14 : decode b_N_get 14 = .ok (.iload_n 3, 1) := by decide +kernel
theorem d_N_get_15 : decode b_N_get 15 = .ok (.goto 8, 3) := by decide +kernel
theorem d_N_get_18 : decode b_N_get 18 = .ok (.aload_n 0, 1) := by decide +kernel
theorem d_N_get_19 : decode b_N_get 19 = .ok (.iload_n 1, 1) := by decide +kernel
theorem d_N_get_20 : decode b_N_get 20 = .ok (.invokevirtual 93, 3) := by decide +kernel
theorem d_N_get_23 : decode b_N_get 23 = .ok (.ireturn, 1) := by decide +kernel
theorem d_N_put_0 : decode b_N_put 0 = .ok (.aload_n 0, 1) := by decide +kernel
theorem d_N_put_1 : decode b_N_put 1 = .ok (.iload_n 1, 1) := by decide +kernel
theorem d_N_put_2 : decode b_N_put 2 = .ok (.iconst 1, 1) := by decide +kernel
theorem d_N_put_3 : decode b_N_put 3 = .ok (.iload_n 2, 1) := by decide +kernel
theorem d_N_put_4 : decode b_N_put 4 = .ok (.iload_n 2, 1) := by decide +kernel
theorem d_N_put_5 : decode b_N_put 5 = .ok (.iload_n 3, 1) := by decide +kernel
theorem d_N_put_6 : decode b_N_put 6 = .ok (.invokevirtual 89, 3) := by decide +kernel
theorem d_N_put_9 : decode b_N_put 9 = .ok (.istore 4, 2) := by decide +kernel
theorem d_N_put_11 : decode b_N_put 11 = .ok (.iload 4, 2) := by decide +kernel
theorem d_N_put_13 : decode b_N_put 13 = .ok (.ifCond .eq 8, 3) := by decide +kernel
theorem d_N_put_16 : decode b_N_put 16 = .ok (.iload 4, 2) := by decide +kernel
theorem d_N_put_18 : decode b_N_put 18 = .ok (.goto 8, 3) := by decide +kernel
theorem d_N_put_21 : decode b_N_put 21 = .ok (.aload_n 0, 1) := by decide +kernel
theorem d_N_put_22 : decode b_N_put 22 = .ok (.iload_n 1, 1) := by decide +kernel
theorem d_N_put_23 : decode b_N_put 23 = .ok (.invokevirtual 93, 3) := by decide +kernel
theorem d_N_put_26 : decode b_N_put 26 = .ok (.ireturn, 1) := by decide +kernel
theorem d_N_delete_0 : decode b_N_delete 0 = .ok (.aload_n 0, 1) := by decide +kernel
theorem d_N_delete_1 : decode b_N_delete 1 = .ok (.iload_n 1, 1) := by decide +kernel
theorem d_N_delete_2 : decode b_N_delete 2 = .ok (.iconst 2, 1) := by decide +kernel
theorem d_N_delete_3 : decode b_N_delete 3 = .ok (.iload_n 2, 1) := by decide +kernel
theorem d_N_delete_4 : decode b_N_delete 4 = .ok (.iload_n 2, 1) := by decide +kernel
theorem d_N_delete_5 : decode b_N_delete 5 = .ok (.iconst 0, 1) := by decide +kernel
theorem d_N_delete_6 : decode b_N_delete 6 = .ok (.invokevirtual 89, 3) := by decide +kernel
theorem d_N_delete_9 : decode b_N_delete 9 = .ok (.istore_n 3, 1) := by decide +kernel
theorem d_N_delete_10 : decode b_N_delete 10 = .ok (.iload_n 3, 1) := by decide +kernel
theorem d_N_delete_11 : decode b_N_delete 11 = .ok (.ifCond .eq 7, 3) := by decide +kernel
theorem d_N_delete_14 : decode b_N_delete 14 = .ok (.iload_n 3, 1) := by decide +kernel
theorem d_N_delete_15 : decode b_N_delete 15 = .ok (.goto 8, 3) := by decide +kernel
theorem d_N_delete_18 : decode b_N_delete 18 = .ok (.aload_n 0, 1) := by decide +kernel
theorem d_N_delete_19 : decode b_N_delete 19 = .ok (.iload_n 1, 1) := by decide +kernel
theorem d_N_delete_20 : decode b_N_delete 20 = .ok (.invokevirtual 93, 3) := by decide +kernel
theorem d_N_delete_23 : decode b_N_delete 23 = .ok (.ireturn, 1) := by decide +kernel
theorem d_N_scan_0 : decode b_N_scan 0 = .ok (.aload_n 0, 1) := by decide +kernel
theorem d_N_scan_1 : decode b_N_scan 1 = .ok (.iload_n 1, 1) := by decide +kernel
theorem d_N_scan_2 : decode b_N_scan 2 = .ok (.iconst 3, 1) := by decide +kernel
theorem d_N_scan_3 : decode b_N_scan 3 = .ok (.iload_n 2, 1) := by decide +kernel
theorem d_N_scan_4 : decode b_N_scan 4 = .ok (.iload_n 3, 1) := by decide +kernel
theorem d_N_scan_5 : decode b_N_scan 5 = .ok (.iconst 0, 1) := by decide +kernel
theorem d_N_scan_6 : decode b_N_scan 6 = .ok (.invokevirtual 89, 3) := by decide +kernel
theorem d_N_scan_9 : decode b_N_scan 9 = .ok (.istore 4, 2) := by decide +kernel
theorem d_N_scan_11 : decode b_N_scan 11 = .ok (.iload 4, 2) := by decide +kernel
theorem d_N_scan_13 : decode b_N_scan 13 = .ok (.ifCond .eq 8, 3) := by decide +kernel
theorem d_N_scan_16 : decode b_N_scan 16 = .ok (.iload 4, 2) := by decide +kernel
theorem d_N_scan_18 : decode b_N_scan 18 = .ok (.goto 8, 3) := by decide +kernel
theorem d_N_scan_21 : decode b_N_scan 21 = .ok (.aload_n 0, 1) := by decide +kernel
theorem d_N_scan_22 : decode b_N_scan 22 = .ok (.iload_n 1, 1) := by decide +kernel
theorem d_N_scan_23 : decode b_N_scan 23 = .ok (.invokevirtual 93, 3) := by decide +kernel
theorem d_N_scan_26 : decode b_N_scan 26 = .ok (.ireturn, 1) := by decide +kernel
theorem d_N_resume_0 : decode b_N_resume 0 = .ok (.aload_n 0, 1) := by decide +kernel
theorem d_N_resume_1 : decode b_N_resume 1 = .ok (.getfield 12, 3) := by decide +kernel
theorem d_N_resume_4 : decode b_N_resume 4 = .ok (.iload_n 1, 1) := by decide +kernel
theorem d_N_resume_5 : decode b_N_resume 5 = .ok (.invokevirtual 97, 3) := by decide +kernel
theorem d_N_resume_8 : decode b_N_resume 8 = .ok (.ifCond .ne 5, 3) := by decide +kernel
theorem d_N_resume_11 : decode b_N_resume 11 = .ok (.iconst (-1), 1) := by decide +kernel
theorem d_N_resume_12 : decode b_N_resume 12 = .ok (.ireturn, 1) := by decide +kernel
theorem d_N_resume_13 : decode b_N_resume 13 = .ok (.aload_n 0, 1) := by decide +kernel
theorem d_N_resume_14 : decode b_N_resume 14 = .ok (.iload_n 1, 1) := by decide +kernel
theorem d_N_resume_15 : decode b_N_resume 15 = .ok (.invokevirtual 93, 3) := by decide +kernel
theorem d_N_resume_18 : decode b_N_resume 18 = .ok (.ireturn, 1) := by decide +kernel
theorem d_N_value_0 : decode b_N_value 0 = .ok (.aload_n 0, 1) := by decide +kernel
theorem d_N_value_1 : decode b_N_value 1 = .ok (.getfield 100, 3) := by decide +kernel
theorem d_N_value_4 : decode b_N_value 4 = .ok (.ireturn, 1) := by decide +kernel
theorem d_N_commit_0 : decode b_N_commit 0 = .ok (.aload_n 0, 1) := by decide +kernel
theorem d_N_commit_1 : decode b_N_commit 1 = .ok (.iload_n 1, 1) := by decide +kernel
theorem d_N_commit_2 : decode b_N_commit 2 = .ok (.invokevirtual 103, 3) := by decide +kernel
theorem d_N_commit_5 : decode b_N_commit 5 = .ok (.istore_n 2, 1) := by decide +kernel
theorem d_N_commit_6 : decode b_N_commit 6 = .ok (.iload_n 2, 1) := by decide +kernel
theorem d_N_commit_7 : decode b_N_commit 7 = .ok (.ifCond .eq 5, 3) := by decide +kernel
theorem d_N_commit_10 : decode b_N_commit 10 = .ok (.iload_n 2, 1) := by decide +kernel
theorem d_N_commit_11 : decode b_N_commit 11 = .ok (.ireturn, 1) := by decide +kernel
theorem d_N_commit_12 : decode b_N_commit 12 = .ok (.aload_n 0, 1) := by decide +kernel
theorem d_N_commit_13 : decode b_N_commit 13 = .ok (.getfield 40, 3) := by decide +kernel
theorem d_N_commit_16 : decode b_N_commit 16 = .ok (.iconst 4, 1) := by decide +kernel
theorem d_N_commit_17 : decode b_N_commit 17 = .ok (.iload_n 1, 1) := by decide +kernel
theorem d_N_commit_18 : decode b_N_commit 18 = .ok (.iconst 0, 1) := by decide +kernel
theorem d_N_commit_19 : decode b_N_commit 19 = .ok (.invokevirtual 85, 3) := by decide +kernel
theorem d_N_commit_22 : decode b_N_commit 22 = .ok (.pop, 1) := by decide +kernel
theorem d_N_commit_23 : decode b_N_commit 23 = .ok (.aload_n 0, 1) := by decide +kernel
theorem d_N_commit_24 : decode b_N_commit 24 = .ok (.getfield 12, 3) := by decide +kernel
theorem d_N_commit_27 : decode b_N_commit 27 = .ok (.getfield 106, 3) := by decide +kernel
theorem d_N_commit_30 : decode b_N_commit 30 = .ok (.iload_n 1, 1) := by decide +kernel
theorem d_N_commit_31 : decode b_N_commit 31 = .ok (.iconst 3, 1) := by decide +kernel
theorem d_N_commit_32 : decode b_N_commit 32 = .ok (.iastore, 1) := by decide +kernel
theorem d_N_commit_33 : decode b_N_commit 33 = .ok (.aload_n 0, 1) := by decide +kernel
theorem d_N_commit_34 : decode b_N_commit 34 = .ok (.getfield 12, 3) := by decide +kernel
theorem d_N_commit_37 : decode b_N_commit 37 = .ok (.getfield 109, 3) := by decide +kernel
theorem d_N_commit_40 : decode b_N_commit 40 = .ok (.iload_n 1, 1) := by decide +kernel
theorem d_N_commit_41 : decode b_N_commit 41 = .ok (.iaload, 1) := by decide +kernel
theorem d_N_commit_42 : decode b_N_commit 42 = .ok (.istore_n 3, 1) := by decide +kernel
theorem d_N_commit_43 : decode b_N_commit 43 = .ok (.iload_n 3, 1) := by decide +kernel
theorem d_N_commit_44 : decode b_N_commit 44 = .ok (.iconst (-1), 1) := by decide +kernel
theorem d_N_commit_45 : decode b_N_commit 45 = .ok (.if_icmp .ne 20, 3) := by decide +kernel
theorem d_N_commit_48 : decode b_N_commit 48 = .ok (.aload_n 0, 1) := by decide +kernel
theorem d_N_commit_49 : decode b_N_commit 49 = .ok (.getfield 40, 3) := by decide +kernel
theorem d_N_commit_52 : decode b_N_commit 52 = .ok (.aload_n 0, 1) := by decide +kernel
theorem d_N_commit_53 : decode b_N_commit 53 = .ok (.getfield 40, 3) := by decide +kernel
theorem d_N_commit_56 : decode b_N_commit 56 = .ok (.invokevirtual 78, 3) := by decide +kernel
theorem d_N_commit_59 : decode b_N_commit 59 = .ok (.putfield 112, 3) := by decide +kernel
theorem d_N_commit_62 : decode b_N_commit 62 = .ok (.goto 12, 3) := by decide +kernel
theorem d_N_commit_65 : decode b_N_commit 65 = .ok (.aload_n 0, 1) := by decide +kernel
theorem d_N_commit_66 : decode b_N_commit 66 = .ok (.getfield 19, 3) := by decide +kernel
theorem d_N_commit_69 : decode b_N_commit 69 = .ok (.iload_n 1, 1) := by decide +kernel
theorem d_N_commit_70 : decode b_N_commit 70 = .ok (.iload_n 3, 1) := by decide +kernel
theorem d_N_commit_71 : decode b_N_commit 71 = .ok (.invokevirtual 115, 3) := by decide +kernel
theorem d_N_commit_74 : decode b_N_commit 74 = .ok (.aload_n 0, 1) := by decide +kernel
theorem d_N_commit_75 : decode b_N_commit 75 = .ok (.getfield 19, 3) := by decide +kernel
theorem d_N_commit_78 : decode b_N_commit 78 = .ok (.iload_n 1, 1) := by decide +kernel
theorem d_N_commit_79 : decode b_N_commit 79 = .ok (.invokevirtual 119, 3) := by decide +kernel
theorem d_N_commit_82 : decode b_N_commit 82 = .ok (.iconst 0, 1) := by decide +kernel
theorem d_N_commit_83 : decode b_N_commit 83 = .ok (.ireturn, 1) := by decide +kernel
theorem d_N_abort_0 : decode b_N_abort 0 = .ok (.aload_n 0, 1) := by decide +kernel
theorem d_N_abort_1 : decode b_N_abort 1 = .ok (.getfield 12, 3) := by decide +kernel
theorem d_N_abort_4 : decode b_N_abort 4 = .ok (.iload_n 1, 1) := by decide +kernel
theorem d_N_abort_5 : decode b_N_abort 5 = .ok (.invokevirtual 122, 3) := by decide +kernel
theorem d_N_abort_8 : decode b_N_abort 8 = .ok (.ifCond .ne 5, 3) := by decide +kernel
theorem d_N_abort_11 : decode b_N_abort 11 = .ok (.iconst (-1), 1) := by decide +kernel
theorem d_N_abort_12 : decode b_N_abort 12 = .ok (.ireturn, 1) := by decide +kernel
theorem d_N_abort_13 : decode b_N_abort 13 = .ok (.aload_n 0, 1) := by decide +kernel
theorem d_N_abort_14 : decode b_N_abort 14 = .ok (.iload_n 1, 1) := by decide +kernel
theorem d_N_abort_15 : decode b_N_abort 15 = .ok (.invokevirtual 125, 3) := by decide +kernel
theorem d_N_abort_18 : decode b_N_abort 18 = .ok (.ireturn, 1) := by decide +kernel
theorem d_N_save_0 : decode b_N_save 0 = .ok (.aload_n 0, 1) := by decide +kernel
theorem d_N_save_1 : decode b_N_save 1 = .ok (.iload_n 1, 1) := by decide +kernel
theorem d_N_save_2 : decode b_N_save 2 = .ok (.invokevirtual 103, 3) := by decide +kernel
theorem d_N_save_5 : decode b_N_save 5 = .ok (.istore_n 2, 1) := by decide +kernel
theorem d_N_save_6 : decode b_N_save 6 = .ok (.iload_n 2, 1) := by decide +kernel
theorem d_N_save_7 : decode b_N_save 7 = .ok (.ifCond .eq 7, 3) := by decide +kernel
theorem d_N_save_10 : decode b_N_save 10 = .ok (.iload_n 2, 1) := by decide +kernel
theorem d_N_save_11 : decode b_N_save 11 = .ok (.goto 10, 3) := by decide +kernel
theorem d_N_save_14 : decode b_N_save 14 = .ok (.aload_n 0, 1) := by decide +kernel
theorem d_N_save_15 : decode b_N_save 15 = .ok (.getfield 40, 3) := by decide +kernel
theorem d_N_save_18 : decode b_N_save 18 = .ok (.invokevirtual 78, 3) := by decide +kernel
theorem d_N_save_21 : decode b_N_save 21 = .ok (.ireturn, 1) := by decide +kernel
theorem d_N_rollback_0 : decode b_N_rollback 0 = .ok (.aload_n 0, 1) := by decide +kernel
theorem d_N_rollback_1 : decode b_N_rollback 1 = .ok (.getfield 12, 3) := by decide +kernel
theorem d_N_rollback_4 : decode b_N_rollback 4 = .ok (.iload_n 1, 1) := by decide +kernel
theorem d_N_rollback_5 : decode b_N_rollback 5 = .ok (.invokevirtual 62, 3) := by decide +kernel
theorem d_N_rollback_8 : decode b_N_rollback 8 = .ok (.ifCond .eq 27, 3) := by decide +kernel
theorem d_N_rollback_11 : decode b_N_rollback 11 = .ok (.iload_n 2, 1) := by decide +kernel
theorem d_N_rollback_12 : decode b_N_rollback 12 = .ok (.aload_n 0, 1) := by decide +kernel
theorem d_N_rollback_13 : decode b_N_rollback 13 = .ok (.getfield 12, 3) := by decide +kernel
theorem d_N_rollback_16 : decode b_N_rollback 16 = .ok (.getfield 128, 3) := by decide +kernel
theorem d_N_rollback_19 : decode b_N_rollback 19 = .ok (.iload_n 1, 1) := by decide +kernel
theorem d_N_rollback_20 : decode b_N_rollback 20 = .ok (.iaload, 1) := by decide +kernel
theorem d_N_rollback_21 : decode b_N_rollback 21 = .ok (.if_icmp .lt 14, 3) := by decide +kernel
theorem d_N_rollback_24 : decode b_N_rollback 24 = .ok (.iload_n 2, 1) := by decide +kernel
theorem d_N_rollback_25 : decode b_N_rollback 25 = .ok (.aload_n 0, 1) := by decide +kernel
theorem d_N_rollback_26 : decode b_N_rollback 26 = .ok (.getfield 40, 3) := by decide +kernel
theorem d_N_rollback_29 : decode b_N_rollback 29 = .ok (.invokevirtual 78, 3) := by decide +kernel
theorem d_N_rollback_32 : decode b_N_rollback 32 = .ok (.if_icmp .le 5, 3) := by decide +kernel
theorem d_N_rollback_35 : decode b_N_rollback 35 = .ok (.iconst (-1), 1) := by decide +kernel
theorem d_N_rollback_36 : decode b_N_rollback 36 = .ok (.ireturn, 1) := by decide +kernel
theorem d_N_rollback_37 : decode b_N_rollback 37 = .ok (.aload_n 0, 1) := by decide +kernel
theorem d_N_rollback_38 : decode b_N_rollback 38 = .ok (.getfield 12, 3) := by decide +kernel
theorem d_N_rollback_41 : decode b_N_rollback 41 = .ok (.iload_n 1, 1) := by decide +kernel
theorem d_N_rollback_42 : decode b_N_rollback 42 = .ok (.invokevirtual 131, 3) := by decide +kernel
theorem d_N_rollback_45 : decode b_N_rollback 45 = .ok (.ifCond .eq 6, 3) := by decide +kernel
theorem d_N_rollback_48 : decode b_N_rollback 48 = .ok (.bipush (-4), 2) := by decide +kernel
theorem d_N_rollback_50 : decode b_N_rollback 50 = .ok (.ireturn, 1) := by decide +kernel
theorem d_N_rollback_51 : decode b_N_rollback 51 = .ok (.aload_n 0, 1) := by decide +kernel
theorem d_N_rollback_52 : decode b_N_rollback 52 = .ok (.iload_n 1, 1) := by decide +kernel
theorem d_N_rollback_53 : decode b_N_rollback 53 = .ok (.iload_n 2, 1) := by decide +kernel
theorem d_N_rollback_54 : decode b_N_rollback 54 = .ok (.invokevirtual 134, 3) := by decide +kernel
theorem d_N_rollback_57 : decode b_N_rollback 57 = .ok (.ireturn, 1) := by decide +kernel
theorem d_N_write_0 : decode b_N_write 0 = .ok (.iload_n 1, 1) := by decide +kernel
theorem d_N_write_1 : decode b_N_write 1 = .ok (.invokestatic 137, 3) := by decide +kernel
theorem d_N_write_4 : decode b_N_write 4 = .ok (.ifCond .eq 15, 3) := by decide +kernel
theorem d_N_write_7 : decode b_N_write 7 = .ok (.aload_n 0, 1) := by decide +kernel
theorem d_N_write_8 : decode b_N_write 8 = .ok (.getfield 58, 3) := by decide +kernel
theorem d_N_write_11 : decode b_N_write 11 = .ok (.getfield 140, 3) := by decide +kernel
theorem d_N_write_14 : decode b_N_write 14 = .ok (.iload_n 1, 1) := by decide +kernel
theorem d_N_write_15 : decode b_N_write 15 = .ok (.baload, 1) := by decide +kernel
theorem d_N_write_16 : decode b_N_write 16 = .ok (.ifCond .ne 5, 3) := by decide +kernel
theorem d_N_write_19 : decode b_N_write 19 = .ok (.iconst 0, 1) := by decide +kernel
theorem d_N_write_20 : decode b_N_write 20 = .ok (.ireturn, 1) := by decide +kernel
theorem d_N_write_21 : decode b_N_write 21 = .ok (.aload_n 0, 1) := by decide +kernel
theorem d_N_write_22 : decode b_N_write 22 = .ok (.getfield 58, 3) := by decide +kernel
theorem d_N_write_25 : decode b_N_write 25 = .ok (.iload_n 1, 1) := by decide +kernel
theorem d_N_write_26 : decode b_N_write 26 = .ok (.aload_n 0, 1) := by decide +kernel
theorem d_N_write_27 : decode b_N_write 27 = .ok (.getfield 40, 3) := by decide +kernel
theorem d_N_write_30 : decode b_N_write 30 = .ok (.invokevirtual 144, 3) := by decide +kernel
theorem d_N_write_33 : decode b_N_write 33 = .ok (.iconst 1, 1) := by decide +kernel
theorem d_N_write_34 : decode b_N_write 34 = .ok (.ireturn, 1) := by decide +kernel
theorem d_N_archive_0 : decode b_N_archive 0 = .ok (.aload_n 0, 1) := by decide +kernel
theorem d_N_archive_1 : decode b_N_archive 1 = .ok (.getfield 12, 3) := by decide +kernel
theorem d_N_archive_4 : decode b_N_archive 4 = .ok (.invokevirtual 148, 3) := by decide +kernel
theorem d_N_archive_7 : decode b_N_archive 7 = .ok (.ifCond .le 5, 3) := by decide +kernel
theorem d_N_archive_10 : decode b_N_archive 10 = .ok (.iconst (-1), 1) := by decide +kernel
theorem d_N_archive_11 : decode b_N_archive 11 = .ok (.ireturn, 1) := by decide +kernel
theorem d_N_archive_12 : decode b_N_archive 12 = .ok (.iconst 0, 1) := by decide +kernel
theorem d_N_archive_13 : decode b_N_archive 13 = .ok (.istore_n 1, 1) := by decide +kernel
theorem d_N_archive_14 : decode b_N_archive 14 = .ok (.iconst 0, 1) := by decide +kernel
theorem d_N_archive_15 : decode b_N_archive 15 = .ok (.istore_n 2, 1) := by decide +kernel
theorem d_N_archive_16 : decode b_N_archive 16 = .ok (.iload_n 2, 1) := by decide +kernel
theorem d_N_archive_17 : decode b_N_archive 17 = .ok (.bipush 8, 2) := by decide +kernel
theorem d_N_archive_19 : decode b_N_archive 19 = .ok (.if_icmp .ge 36, 3) := by decide +kernel
theorem d_N_archive_22 : decode b_N_archive 22 = .ok (.aload_n 0, 1) := by decide +kernel
theorem d_N_archive_23 : decode b_N_archive 23 = .ok (.getfield 58, 3) := by decide +kernel
theorem d_N_archive_26 : decode b_N_archive 26 = .ok (.getfield 140, 3) := by decide +kernel
theorem d_N_archive_29 : decode b_N_archive 29 = .ok (.iload_n 2, 1) := by decide +kernel
theorem d_N_archive_30 : decode b_N_archive 30 = .ok (.baload, 1) := by decide +kernel
theorem d_N_archive_31 : decode b_N_archive 31 = .ok (.ifCond .eq 18, 3) := by decide +kernel
theorem d_N_archive_34 : decode b_N_archive 34 = .ok (.aload_n 0, 1) := by decide +kernel
theorem d_N_archive_35 : decode b_N_archive 35 = .ok (.getfield 58, 3) := by decide +kernel
theorem d_N_archive_38 : decode b_N_archive 38 = .ok (.iload_n 2, 1) := by decide +kernel
theorem d_N_archive_39 : decode b_N_archive 39 = .ok (.aload_n 0, 1) := by decide +kernel
theorem d_N_archive_40 : decode b_N_archive 40 = .ok (.getfield 40, 3) := by decide +kernel
theorem d_N_archive_43 : decode b_N_archive 43 = .ok (.invokevirtual 144, 3) := by decide +kernel
theorem d_N_archive_46 : decode b_N_archive 46 = .ok (.iinc 1 1, 3) := by decide +kernel
theorem d_N_archive_49 : decode b_N_archive 49 = .ok (.iinc 2 1, 3) := by decide +kernel
theorem d_N_archive_52 : decode b_N_archive 52 = .ok (.goto (-36), 3) := by decide +kernel
theorem d_N_archive_55 : decode b_N_archive 55 = .ok (.aload_n 0, 1) := by decide +kernel
theorem d_N_archive_56 : decode b_N_archive 56 = .ok (.getfield 40, 3) := by decide +kernel
theorem d_N_archive_59 : decode b_N_archive 59 = .ok (.invokevirtual 151, 3) := by decide +kernel
theorem d_N_archive_62 : decode b_N_archive 62 = .ok (.iload_n 1, 1) := by decide +kernel
theorem d_N_archive_63 : decode b_N_archive 63 = .ok (.ireturn, 1) := by decide +kernel
theorem d_N_crash_0 : decode b_N_crash 0 = .ok (.iload_n 1, 1) := by decide +kernel
theorem d_N_crash_1 : decode b_N_crash 1 = .ok (.ifCond .lt 22, 3) := by decide +kernel
theorem d_N_crash_4 : decode b_N_crash 4 = .ok (.iload_n 1, 1) := by decide +kernel
theorem d_N_crash_5 : decode b_N_crash 5 = .ok (.aload_n 0, 1) := by decide +kernel
theorem d_N_crash_6 : decode b_N_crash 6 = .ok (.getfield 40, 3) := by decide +kernel
theorem d_N_crash_9 : decode b_N_crash 9 = .ok (.invokevirtual 78, 3) := by decide +kernel
theorem d_N_crash_12 : decode b_N_crash 12 = .ok (.aload_n 0, 1) := by decide +kernel
theorem d_N_crash_13 : decode b_N_crash 13 = .ok (.getfield 40, 3) := by decide +kernel
theorem d_N_crash_16 : decode b_N_crash 16 = .ok (.getfield 112, 3) := by decide +kernel
theorem d_N_crash_19 : decode b_N_crash 19 = .ok (.isub, 1) := by decide +kernel
theorem d_N_crash_20 : decode b_N_crash 20 = .ok (.if_icmp .le 5, 3) := by decide +kernel
theorem d_N_crash_23 : decode b_N_crash 23 = .ok (.iconst (-1), 1) := by decide +kernel
theorem d_N_crash_24 : decode b_N_crash 24 = .ok (.ireturn, 1) := by decide +kernel
theorem d_N_crash_25 : decode b_N_crash 25 = .ok (.aload_n 0, 1) := by decide +kernel
theorem d_N_crash_26 : decode b_N_crash 26 = .ok (.getfield 40, 3) := by decide +kernel
theorem d_N_crash_29 : decode b_N_crash 29 = .ok (.dup, 1) := by decide +kernel
theorem d_N_crash_30 : decode b_N_crash 30 = .ok (.getfield 112, 3) := by decide +kernel
theorem d_N_crash_33 : decode b_N_crash 33 = .ok (.iload_n 1, 1) := by decide +kernel
theorem d_N_crash_34 : decode b_N_crash 34 = .ok (.iadd, 1) := by decide +kernel
theorem d_N_crash_35 : decode b_N_crash 35 = .ok (.putfield 112, 3) := by decide +kernel
theorem d_N_crash_38 : decode b_N_crash 38 = .ok (.aload_n 0, 1) := by decide +kernel
theorem d_N_crash_39 : decode b_N_crash 39 = .ok (.getfield 40, 3) := by decide +kernel
theorem d_N_crash_42 : decode b_N_crash 42 = .ok (.invokevirtual 154, 3) := by decide +kernel
theorem d_N_crash_45 : decode b_N_crash 45 = .ok (.aload_n 0, 1) := by decide +kernel
theorem d_N_crash_46 : decode b_N_crash 46 = .ok (.getfield 58, 3) := by decide +kernel
theorem d_N_crash_49 : decode b_N_crash 49 = .ok (.invokevirtual 157, 3) := by decide +kernel
theorem d_N_crash_52 : decode b_N_crash 52 = .ok (.aload_n 0, 1) := by decide +kernel
theorem d_N_crash_53 : decode b_N_crash 53 = .ok (.getfield 19, 3) := by decide +kernel
theorem d_N_crash_56 : decode b_N_crash 56 = .ok (.invokevirtual 160, 3) := by decide +kernel
theorem d_N_crash_59 : decode b_N_crash 59 = .ok (.aload_n 0, 1) := by decide +kernel
theorem d_N_crash_60 : decode b_N_crash 60 = .ok (.getfield 12, 3) := by decide +kernel
theorem d_N_crash_63 : decode b_N_crash 63 = .ok (.invokevirtual 163, 3) := by decide +kernel
theorem d_N_crash_66 : decode b_N_crash 66 = .ok (.aload_n 0, 1) := by decide +kernel
theorem d_N_crash_67 : decode b_N_crash 67 = .ok (.invokevirtual 166, 3) := by decide +kernel
theorem d_N_crash_70 : decode b_N_crash 70 = .ok (.aload_n 0, 1) := by decide +kernel
theorem d_N_crash_71 : decode b_N_crash 71 = .ok (.invokevirtual 169, 3) := by decide +kernel
theorem d_N_crash_74 : decode b_N_crash 74 = .ok (.istore_n 2, 1) := by decide +kernel
theorem d_N_crash_75 : decode b_N_crash 75 = .ok (.aload_n 0, 1) := by decide +kernel
theorem d_N_crash_76 : decode b_N_crash 76 = .ok (.getfield 40, 3) := by decide +kernel
theorem d_N_crash_79 : decode b_N_crash 79 = .ok (.aload_n 0, 1) := by decide +kernel
theorem d_N_crash_80 : decode b_N_crash 80 = .ok (.getfield 40, 3) := by decide +kernel
theorem d_N_crash_83 : decode b_N_crash 83 = .ok (.invokevirtual 78, 3) := by decide +kernel
theorem d_N_crash_86 : decode b_N_crash 86 = .ok (.putfield 112, 3) := by decide +kernel
theorem d_N_crash_89 : decode b_N_crash 89 = .ok (.iload_n 2, 1) := by decide +kernel
theorem d_N_crash_90 : decode b_N_crash 90 = .ok (.ireturn, 1) := by decide +kernel
theorem d_N_state_0 : decode b_N_state 0 = .ok (.aload_n 0, 1) := by decide +kernel
theorem d_N_state_1 : decode b_N_state 1 = .ok (.getfield 12, 3) := by decide +kernel
theorem d_N_state_4 : decode b_N_state 4 = .ok (.iload_n 1, 1) := by decide +kernel
theorem d_N_state_5 : decode b_N_state 5 = .ok (.invokevirtual 172, 3) := by decide +kernel
theorem d_N_state_8 : decode b_N_state 8 = .ok (.ifCond .eq 15, 3) := by decide +kernel
theorem d_N_state_11 : decode b_N_state 11 = .ok (.aload_n 0, 1) := by decide +kernel
theorem d_N_state_12 : decode b_N_state 12 = .ok (.getfield 12, 3) := by decide +kernel
theorem d_N_state_15 : decode b_N_state 15 = .ok (.getfield 106, 3) := by decide +kernel
theorem d_N_state_18 : decode b_N_state 18 = .ok (.iload_n 1, 1) := by decide +kernel
theorem d_N_state_19 : decode b_N_state 19 = .ok (.iaload, 1) := by decide +kernel
theorem d_N_state_20 : decode b_N_state 20 = .ok (.goto 4, 3) := by decide +kernel
theorem d_N_state_23 : decode b_N_state 23 = .ok (.iconst (-1), 1) := by decide +kernel
theorem d_N_state_24 : decode b_N_state 24 = .ok (.ireturn, 1) := by decide +kernel
theorem d_N_parent_0 : decode b_N_parent 0 = .ok (.aload_n 0, 1) := by decide +kernel
theorem d_N_parent_1 : decode b_N_parent 1 = .ok (.getfield 12, 3) := by decide +kernel
theorem d_N_parent_4 : decode b_N_parent 4 = .ok (.iload_n 1, 1) := by decide +kernel
theorem d_N_parent_5 : decode b_N_parent 5 = .ok (.invokevirtual 172, 3) := by decide +kernel
theorem d_N_parent_8 : decode b_N_parent 8 = .ok (.ifCond .eq 15, 3) := by decide +kernel
theorem d_N_parent_11 : decode b_N_parent 11 = .ok (.aload_n 0, 1) := by decide +kernel
theorem d_N_parent_12 : decode b_N_parent 12 = .ok (.getfield 12, 3) := by decide +kernel
theorem d_N_parent_15 : decode b_N_parent 15 = .ok (.getfield 109, 3) := by decide +kernel
theorem d_N_parent_18 : decode b_N_parent 18 = .ok (.iload_n 1, 1) := by decide +kernel
theorem d_N_parent_19 : decode b_N_parent 19 = .ok (.iaload, 1) := by decide +kernel
theorem d_N_parent_20 : decode b_N_parent 20 = .ok (.goto 4, 3) := by decide +kernel
theorem d_N_parent_23 : decode b_N_parent 23 = .ok (.iconst (-1), 1) := by decide +kernel
theorem d_N_parent_24 : decode b_N_parent 24 = .ok (.ireturn, 1) := by decide +kernel
theorem d_N_lock_0 : decode b_N_lock 0 = .ok (.aload_n 0, 1) := by decide +kernel
theorem d_N_lock_1 : decode b_N_lock 1 = .ok (.getfield 12, 3) := by decide +kernel
theorem d_N_lock_4 : decode b_N_lock 4 = .ok (.iload_n 1, 1) := by decide +kernel
theorem d_N_lock_5 : decode b_N_lock 5 = .ok (.invokevirtual 172, 3) := by decide +kernel
theorem d_N_lock_8 : decode b_N_lock 8 = .ok (.ifCond .eq 13, 3) := by decide +kernel
theorem d_N_lock_11 : decode b_N_lock 11 = .ok (.iload_n 2, 1) := by decide +kernel
theorem d_N_lock_12 : decode b_N_lock 12 = .ok (.ifCond .lt 9, 3) := by decide +kernel
theorem d_N_lock_15 : decode b_N_lock 15 = .ok (.iload_n 2, 1) := by decide +kernel
theorem d_N_lock_16 : decode b_N_lock 16 = .ok (.bipush 33, 2) := by decide +kernel
theorem d_N_lock_18 : decode b_N_lock 18 = .ok (.if_icmp .lt 5, 3) := by decide +kernel
theorem d_N_lock_21 : decode b_N_lock 21 = .ok (.iconst (-1), 1) := by decide +kernel
theorem d_N_lock_22 : decode b_N_lock 22 = .ok (.ireturn, 1) := by decide +kernel
theorem d_N_lock_23 : decode b_N_lock 23 = .ok (.aload_n 0, 1) := by decide +kernel
theorem d_N_lock_24 : decode b_N_lock 24 = .ok (.getfield 19, 3) := by decide +kernel
theorem d_N_lock_27 : decode b_N_lock 27 = .ok (.iload_n 1, 1) := by decide +kernel
theorem d_N_lock_28 : decode b_N_lock 28 = .ok (.iload_n 2, 1) := by decide +kernel
theorem d_N_lock_29 : decode b_N_lock 29 = .ok (.invokevirtual 175, 3) := by decide +kernel
theorem d_N_lock_32 : decode b_N_lock 32 = .ok (.ireturn, 1) := by decide +kernel
theorem d_N_waits_0 : decode b_N_waits 0 = .ok (.aload_n 0, 1) := by decide +kernel
theorem d_N_waits_1 : decode b_N_waits 1 = .ok (.getfield 12, 3) := by decide +kernel
theorem d_N_waits_4 : decode b_N_waits 4 = .ok (.iload_n 1, 1) := by decide +kernel
theorem d_N_waits_5 : decode b_N_waits 5 = .ok (.invokevirtual 97, 3) := by decide +kernel
theorem d_N_waits_8 : decode b_N_waits 8 = .ok (.ifCond .eq 14, 3) := by decide +kernel
theorem d_N_waits_11 : decode b_N_waits 11 = .ok (.aload_n 0, 1) := by decide +kernel
theorem d_N_waits_12 : decode b_N_waits 12 = .ok (.getfield 12, 3) := by decide +kernel
theorem d_N_waits_15 : decode b_N_waits 15 = .ok (.iload_n 2, 1) := by decide +kernel
theorem d_N_waits_16 : decode b_N_waits 16 = .ok (.invokevirtual 172, 3) := by decide +kernel
theorem d_N_waits_19 : decode b_N_waits 19 = .ok (.ifCond .ne 5, 3) := by decide +kernel
theorem d_N_waits_22 : decode b_N_waits 22 = .ok (.iconst 0, 1) := by decide +kernel
theorem d_N_waits_23 : decode b_N_waits 23 = .ok (.ireturn, 1) := by decide +kernel
theorem d_N_waits_24 : decode b_N_waits 24 = .ok (.aload_n 0, 1) := by decide +kernel
theorem d_N_waits_25 : decode b_N_waits 25 = .ok (.iload_n 1, 1) := by decide +kernel
theorem d_N_waits_26 : decode b_N_waits 26 = .ok (.invokevirtual 178, 3) := by decide +kernel
theorem d_N_waits_29 : decode b_N_waits 29 = .ok (.lconst 1, 1) := by decide +kernel
theorem d_N_waits_30 : decode b_N_waits 30 = .ok (.iload_n 2, 1) := by decide +kernel
theorem d_N_waits_31 : decode b_N_waits 31 = .ok (.lshl, 1) := by decide +kernel
theorem d_N_waits_32 : decode b_N_waits 32 = .ok (.land, 1) := by decide +kernel
theorem d_N_waits_33 : decode b_N_waits 33 = .ok (.lconst 0, 1) := by decide +kernel
theorem d_N_waits_34 : decode b_N_waits 34 = .ok (.lcmp, 1) := by decide +kernel
theorem d_N_waits_35 : decode b_N_waits 35 = .ok (.ifCond .eq 7, 3) := by decide +kernel
theorem d_N_waits_38 : decode b_N_waits 38 = .ok (.iconst 1, 1) := by decide +kernel
theorem d_N_waits_39 : decode b_N_waits 39 = .ok (.goto 4, 3) := by decide +kernel
theorem d_N_waits_42 : decode b_N_waits 42 = .ok (.iconst 0, 1) := by decide +kernel
theorem d_N_waits_43 : decode b_N_waits 43 = .ok (.ireturn, 1) := by decide +kernel
theorem d_N_entry_0 : decode b_N_entry 0 = .ok (.iload_n 1, 1) := by decide +kernel
theorem d_N_entry_1 : decode b_N_entry 1 = .ok (.aload_n 0, 1) := by decide +kernel
theorem d_N_entry_2 : decode b_N_entry 2 = .ok (.getfield 40, 3) := by decide +kernel
theorem d_N_entry_5 : decode b_N_entry 5 = .ok (.getfield 182, 3) := by decide +kernel
theorem d_N_entry_8 : decode b_N_entry 8 = .ok (.if_icmp .le 14, 3) := by decide +kernel
theorem d_N_entry_11 : decode b_N_entry 11 = .ok (.iload_n 1, 1) := by decide +kernel
theorem d_N_entry_12 : decode b_N_entry 12 = .ok (.aload_n 0, 1) := by decide +kernel
theorem d_N_entry_13 : decode b_N_entry 13 = .ok (.getfield 40, 3) := by decide +kernel
theorem d_N_entry_16 : decode b_N_entry 16 = .ok (.invokevirtual 78, 3) := by decide +kernel
theorem d_N_entry_19 : decode b_N_entry 19 = .ok (.if_icmp .le 5, 3) := by decide +kernel
theorem d_N_entry_22 : decode b_N_entry 22 = .ok (.iconst (-1), 1) := by decide +kernel
theorem d_N_entry_23 : decode b_N_entry 23 = .ok (.ireturn, 1) := by decide +kernel
theorem d_N_entry_24 : decode b_N_entry 24 = .ok (.aload_n 0, 1) := by decide +kernel
theorem d_N_entry_25 : decode b_N_entry 25 = .ok (.getfield 40, 3) := by decide +kernel
theorem d_N_entry_28 : decode b_N_entry 28 = .ok (.iload_n 1, 1) := by decide +kernel
theorem d_N_entry_29 : decode b_N_entry 29 = .ok (.invokevirtual 185, 3) := by decide +kernel
theorem d_N_entry_32 : decode b_N_entry 32 = .ok (.istore_n 3, 1) := by decide +kernel
theorem d_N_entry_33 : decode b_N_entry 33 = .ok (.iload_n 2, 1) := by decide +kernel
theorem d_N_entry_34 : decode b_N_entry 34 = .ok (.tableswitch 129 0 5 #[38, 48, 58, 68, 106, 119], 38) := by decide +kernel
theorem d_N_entry_72 : decode b_N_entry 72 = .ok (.aload_n 0, 1) := by decide +kernel
theorem d_N_entry_73 : decode b_N_entry 73 = .ok (.getfield 40, 3) := by decide +kernel
theorem d_N_entry_76 : decode b_N_entry 76 = .ok (.getfield 188, 3) := by decide +kernel
theorem d_N_entry_79 : decode b_N_entry 79 = .ok (.iload_n 3, 1) := by decide +kernel
theorem d_N_entry_80 : decode b_N_entry 80 = .ok (.iaload, 1) := by decide +kernel
theorem d_N_entry_81 : decode b_N_entry 81 = .ok (.ireturn, 1) := by decide +kernel
theorem d_N_entry_82 : decode b_N_entry 82 = .ok (.aload_n 0, 1) := by decide +kernel
theorem d_N_entry_83 : decode b_N_entry 83 = .ok (.getfield 40, 3) := by decide +kernel
theorem d_N_entry_86 : decode b_N_entry 86 = .ok (.getfield 191, 3) := by decide +kernel
theorem d_N_entry_89 : decode b_N_entry 89 = .ok (.iload_n 3, 1) := by decide +kernel
theorem d_N_entry_90 : decode b_N_entry 90 = .ok (.iaload, 1) := by decide +kernel
theorem d_N_entry_91 : decode b_N_entry 91 = .ok (.ireturn, 1) := by decide +kernel
theorem d_N_entry_92 : decode b_N_entry 92 = .ok (.aload_n 0, 1) := by decide +kernel
theorem d_N_entry_93 : decode b_N_entry 93 = .ok (.getfield 40, 3) := by decide +kernel
theorem d_N_entry_96 : decode b_N_entry 96 = .ok (.getfield 194, 3) := by decide +kernel
theorem d_N_entry_99 : decode b_N_entry 99 = .ok (.iload_n 3, 1) := by decide +kernel
theorem d_N_entry_100 : decode b_N_entry 100 = .ok (.iaload, 1) := by decide +kernel
theorem d_N_entry_101 : decode b_N_entry 101 = .ok (.ireturn, 1) := by decide +kernel
theorem d_N_entry_102 : decode b_N_entry 102 = .ok (.aload_n 0, 1) := by decide +kernel
theorem d_N_entry_103 : decode b_N_entry 103 = .ok (.getfield 40, 3) := by decide +kernel
theorem d_N_entry_106 : decode b_N_entry 106 = .ok (.getfield 188, 3) := by decide +kernel
theorem d_N_entry_109 : decode b_N_entry 109 = .ok (.iload_n 3, 1) := by decide +kernel
theorem d_N_entry_110 : decode b_N_entry 110 = .ok (.iaload, 1) := by decide +kernel
theorem d_N_entry_111 : decode b_N_entry 111 = .ok (.iconst 3, 1) := by decide +kernel
theorem d_N_entry_112 : decode b_N_entry 112 = .ok (.if_icmp .ne 15, 3) := by decide +kernel
theorem d_N_entry_115 : decode b_N_entry 115 = .ok (.aload_n 0, 1) := by decide +kernel
theorem d_N_entry_116 : decode b_N_entry 116 = .ok (.getfield 40, 3) := by decide +kernel
theorem d_N_entry_119 : decode b_N_entry 119 = .ok (.getfield 197, 3) := by decide +kernel
theorem d_N_entry_122 : decode b_N_entry 122 = .ok (.iload_n 3, 1) := by decide +kernel
theorem d_N_entry_123 : decode b_N_entry 123 = .ok (.iaload, 1) := by decide +kernel
theorem d_N_entry_124 : decode b_N_entry 124 = .ok (.goto 15, 3) := by decide +kernel
theorem d_N_entry_127 : decode b_N_entry 127 = .ok (.aload_n 0, 1) := by decide +kernel
theorem d_N_entry_128 : decode b_N_entry 128 = .ok (.getfield 40, 3) := by decide +kernel
theorem d_N_entry_131 : decode b_N_entry 131 = .ok (.getfield 200, 3) := by decide +kernel
theorem d_N_entry_134 : decode b_N_entry 134 = .ok (.iload_n 3, 1) := by decide +kernel
theorem d_N_entry_135 : decode b_N_entry 135 = .ok (.baload, 1) := by decide +kernel
theorem d_N_entry_136 : decode b_N_entry 136 = .ok (.invokestatic 203, 3) := by decide +kernel
theorem d_N_entry_139 : decode b_N_entry 139 = .ok (.ireturn, 1) := by decide +kernel
theorem d_N_entry_140 : decode b_N_entry 140 = .ok (.aload_n 0, 1) := by decide +kernel
theorem d_N_entry_141 : decode b_N_entry 141 = .ok (.getfield 40, 3) := by decide +kernel
theorem d_N_entry_144 : decode b_N_entry 144 = .ok (.getfield 207, 3) := by decide +kernel
theorem d_N_entry_147 : decode b_N_entry 147 = .ok (.iload_n 3, 1) := by decide +kernel
theorem d_N_entry_148 : decode b_N_entry 148 = .ok (.baload, 1) := by decide +kernel
theorem d_N_entry_149 : decode b_N_entry 149 = .ok (.invokestatic 203, 3) := by decide +kernel
theorem d_N_entry_152 : decode b_N_entry 152 = .ok (.ireturn, 1) := by decide +kernel
theorem d_N_entry_153 : decode b_N_entry 153 = .ok (.aload_n 0, 1) := by decide +kernel
theorem d_N_entry_154 : decode b_N_entry 154 = .ok (.getfield 40, 3) := by decide +kernel
theorem d_N_entry_157 : decode b_N_entry 157 = .ok (.getfield 210, 3) := by decide +kernel
theorem d_N_entry_160 : decode b_N_entry 160 = .ok (.iload_n 3, 1) := by decide +kernel
theorem d_N_entry_161 : decode b_N_entry 161 = .ok (.iaload, 1) := by decide +kernel
theorem d_N_entry_162 : decode b_N_entry 162 = .ok (.ireturn, 1) := by decide +kernel
theorem d_N_entry_163 : decode b_N_entry 163 = .ok (.iconst (-1), 1) := by decide +kernel
theorem d_N_entry_164 : decode b_N_entry 164 = .ok (.ireturn, 1) := by decide +kernel
theorem d_N_log_0 : decode b_N_log 0 = .ok (.iload_n 1, 1) := by decide +kernel
theorem d_N_log_1 : decode b_N_log 1 = .ok (.tableswitch 72 0 4 #[35, 43, 51, 59, 64], 35) := by decide +kernel
theorem d_N_log_36 : decode b_N_log 36 = .ok (.aload_n 0, 1) := by decide +kernel
theorem d_N_log_37 : decode b_N_log 37 = .ok (.getfield 40, 3) := by decide +kernel
theorem d_N_log_40 : decode b_N_log 40 = .ok (.invokevirtual 78, 3) := by decide +kernel
theorem d_N_log_43 : decode b_N_log 43 = .ok (.ireturn, 1) := by decide +kernel
theorem d_N_log_44 : decode b_N_log 44 = .ok (.aload_n 0, 1) := by decide +kernel
theorem d_N_log_45 : decode b_N_log 45 = .ok (.getfield 40, 3) := by decide +kernel
theorem d_N_log_48 : decode b_N_log 48 = .ok (.getfield 112, 3) := by decide +kernel
theorem d_N_log_51 : decode b_N_log 51 = .ok (.ireturn, 1) := by decide +kernel
theorem d_N_log_52 : decode b_N_log 52 = .ok (.aload_n 0, 1) := by decide +kernel
theorem d_N_log_53 : decode b_N_log 53 = .ok (.getfield 40, 3) := by decide +kernel
theorem d_N_log_56 : decode b_N_log 56 = .ok (.getfield 213, 3) := by decide +kernel
theorem d_N_log_59 : decode b_N_log 59 = .ok (.ireturn, 1) := by decide +kernel
theorem d_N_log_60 : decode b_N_log 60 = .ok (.aload_n 0, 1) := by decide +kernel
theorem d_N_log_61 : decode b_N_log 61 = .ok (.invokevirtual 216, 3) := by decide +kernel
theorem d_N_log_64 : decode b_N_log 64 = .ok (.ireturn, 1) := by decide +kernel
theorem d_N_log_65 : decode b_N_log 65 = .ok (.aload_n 0, 1) := by decide +kernel
theorem d_N_log_66 : decode b_N_log 66 = .ok (.getfield 12, 3) := by decide +kernel
theorem d_N_log_69 : decode b_N_log 69 = .ok (.invokevirtual 148, 3) := by decide +kernel
theorem d_N_log_72 : decode b_N_log 72 = .ok (.ireturn, 1) := by decide +kernel
theorem d_N_log_73 : decode b_N_log 73 = .ok (.iconst (-1), 1) := by decide +kernel
theorem d_N_log_74 : decode b_N_log 74 = .ok (.ireturn, 1) := by decide +kernel
theorem d_N_key_0 : decode b_N_key 0 = .ok (.iload_n 1, 1) := by decide +kernel
theorem d_N_key_1 : decode b_N_key 1 = .ok (.invokestatic 219, 3) := by decide +kernel
theorem d_N_key_4 : decode b_N_key 4 = .ok (.ifCond .ne 5, 3) := by decide +kernel
theorem d_N_key_7 : decode b_N_key 7 = .ok (.iconst (-1), 1) := by decide +kernel
theorem d_N_key_8 : decode b_N_key 8 = .ok (.ireturn, 1) := by decide +kernel
theorem d_N_key_9 : decode b_N_key 9 = .ok (.iload_n 2, 1) := by decide +kernel
theorem d_N_key_10 : decode b_N_key 10 = .ok (.tableswitch 76 0 3 #[30, 43, 53, 66], 30) := by decide +kernel
theorem d_N_key_40 : decode b_N_key 40 = .ok (.aload_n 0, 1) := by decide +kernel
theorem d_N_key_41 : decode b_N_key 41 = .ok (.getfield 58, 3) := by decide +kernel
theorem d_N_key_44 : decode b_N_key 44 = .ok (.getfield 222, 3) := by decide +kernel
theorem d_N_key_47 : decode b_N_key 47 = .ok (.iload_n 1, 1) := by decide +kernel
theorem d_N_key_48 : decode b_N_key 48 = .ok (.baload, 1) := by decide +kernel
theorem d_N_key_49 : decode b_N_key 49 = .ok (.invokestatic 203, 3) := by decide +kernel
theorem d_N_key_52 : decode b_N_key 52 = .ok (.ireturn, 1) := by decide +kernel
theorem d_N_key_53 : decode b_N_key 53 = .ok (.aload_n 0, 1) := by decide +kernel
theorem d_N_key_54 : decode b_N_key 54 = .ok (.getfield 58, 3) := by decide +kernel
theorem d_N_key_57 : decode b_N_key 57 = .ok (.getfield 225, 3) := by decide +kernel
theorem d_N_key_60 : decode b_N_key 60 = .ok (.iload_n 1, 1) := by decide +kernel
theorem d_N_key_61 : decode b_N_key 61 = .ok (.iaload, 1) := by decide +kernel
theorem d_N_key_62 : decode b_N_key 62 = .ok (.ireturn, 1) := by decide +kernel
theorem d_N_key_63 : decode b_N_key 63 = .ok (.aload_n 0, 1) := by decide +kernel
theorem d_N_key_64 : decode b_N_key 64 = .ok (.getfield 58, 3) := by decide +kernel
theorem d_N_key_67 : decode b_N_key 67 = .ok (.getfield 228, 3) := by decide +kernel
theorem d_N_key_70 : decode b_N_key 70 = .ok (.iload_n 1, 1) := by decide +kernel
theorem d_N_key_71 : decode b_N_key 71 = .ok (.baload, 1) := by decide +kernel
theorem d_N_key_72 : decode b_N_key 72 = .ok (.invokestatic 203, 3) := by decide +kernel
theorem d_N_key_75 : decode b_N_key 75 = .ok (.ireturn, 1) := by decide +kernel
theorem d_N_key_76 : decode b_N_key 76 = .ok (.aload_n 0, 1) := by decide +kernel
theorem d_N_key_77 : decode b_N_key 77 = .ok (.getfield 58, 3) := by decide +kernel
theorem d_N_key_80 : decode b_N_key 80 = .ok (.getfield 231, 3) := by decide +kernel
theorem d_N_key_83 : decode b_N_key 83 = .ok (.iload_n 1, 1) := by decide +kernel
theorem d_N_key_84 : decode b_N_key 84 = .ok (.iaload, 1) := by decide +kernel
theorem d_N_key_85 : decode b_N_key 85 = .ok (.ireturn, 1) := by decide +kernel
theorem d_N_key_86 : decode b_N_key 86 = .ok (.iconst (-1), 1) := by decide +kernel
theorem d_N_key_87 : decode b_N_key 87 = .ok (.ireturn, 1) := by decide +kernel
theorem d_N_frame_0 : decode b_N_frame 0 = .ok (.iload_n 1, 1) := by decide +kernel
theorem d_N_frame_1 : decode b_N_frame 1 = .ok (.ifCond .lt 14, 3) := by decide +kernel
theorem d_N_frame_4 : decode b_N_frame 4 = .ok (.iload_n 1, 1) := by decide +kernel
theorem d_N_frame_5 : decode b_N_frame 5 = .ok (.aload_n 0, 1) := by decide +kernel
theorem d_N_frame_6 : decode b_N_frame 6 = .ok (.getfield 58, 3) := by decide +kernel
theorem d_N_frame_9 : decode b_N_frame 9 = .ok (.getfield 234, 3) := by decide +kernel
theorem d_N_frame_12 : decode b_N_frame 12 = .ok (.if_icmp .lt 5, 3) := by decide +kernel
theorem d_N_frame_15 : decode b_N_frame 15 = .ok (.iconst (-1), 1) := by decide +kernel
theorem d_N_frame_16 : decode b_N_frame 16 = .ok (.ireturn, 1) := by decide +kernel
theorem d_N_frame_17 : decode b_N_frame 17 = .ok (.aload_n 0, 1) := by decide +kernel
theorem d_N_frame_18 : decode b_N_frame 18 = .ok (.getfield 58, 3) := by decide +kernel
theorem d_N_frame_21 : decode b_N_frame 21 = .ok (.getfield 237, 3) := by decide +kernel
theorem d_N_frame_24 : decode b_N_frame 24 = .ok (.iload_n 1, 1) := by decide +kernel
theorem d_N_frame_25 : decode b_N_frame 25 = .ok (.iaload, 1) := by decide +kernel
theorem d_N_frame_26 : decode b_N_frame 26 = .ok (.istore_n 2, 1) := by decide +kernel
theorem d_N_frame_27 : decode b_N_frame 27 = .ok (.iload_n 2, 1) := by decide +kernel
theorem d_N_frame_28 : decode b_N_frame 28 = .ok (.iconst 2, 1) := by decide +kernel
theorem d_N_frame_29 : decode b_N_frame 29 = .ok (.imul, 1) := by decide +kernel
theorem d_N_frame_30 : decode b_N_frame 30 = .ok (.aload_n 0, 1) := by decide +kernel
theorem d_N_frame_31 : decode b_N_frame 31 = .ok (.getfield 58, 3) := by decide +kernel
theorem d_N_frame_34 : decode b_N_frame 34 = .ok (.getfield 140, 3) := by decide +kernel
theorem d_N_frame_37 : decode b_N_frame 37 = .ok (.iload_n 2, 1) := by decide +kernel
theorem d_N_frame_38 : decode b_N_frame 38 = .ok (.baload, 1) := by decide +kernel
theorem d_N_frame_39 : decode b_N_frame 39 = .ok (.invokestatic 203, 3) := by decide +kernel
theorem d_N_frame_42 : decode b_N_frame 42 = .ok (.iadd, 1) := by decide +kernel
theorem d_N_frame_43 : decode b_N_frame 43 = .ok (.ireturn, 1) := by decide +kernel
theorem d_N_page_0 : decode b_N_page 0 = .ok (.iload_n 1, 1) := by decide +kernel
theorem d_N_page_1 : decode b_N_page 1 = .ok (.invokestatic 137, 3) := by decide +kernel
theorem d_N_page_4 : decode b_N_page 4 = .ok (.ifCond .eq 15, 3) := by decide +kernel
theorem d_N_page_7 : decode b_N_page 7 = .ok (.aload_n 0, 1) := by decide +kernel
theorem d_N_page_8 : decode b_N_page 8 = .ok (.getfield 58, 3) := by decide +kernel
theorem d_N_page_11 : decode b_N_page 11 = .ok (.getfield 240, 3) := by decide +kernel
theorem d_N_page_14 : decode b_N_page 14 = .ok (.iload_n 1, 1) := by decide +kernel
theorem d_N_page_15 : decode b_N_page 15 = .ok (.iaload, 1) := by decide +kernel
theorem d_N_page_16 : decode b_N_page 16 = .ok (.goto 4, 3) := by decide +kernel
theorem d_N_page_19 : decode b_N_page 19 = .ok (.iconst (-1), 1) := by decide +kernel
theorem d_N_page_20 : decode b_N_page 20 = .ok (.ireturn, 1) := by decide +kernel
theorem d_N_isKey_0 : decode b_N_isKey 0 = .ok (.iload_n 0, 1) := by decide +kernel
theorem d_N_isKey_1 : decode b_N_isKey 1 = .ok (.ifCond .lt 13, 3) := by decide +kernel
theorem d_N_isKey_4 : decode b_N_isKey 4 = .ok (.iload_n 0, 1) := by decide +kernel
theorem d_N_isKey_5 : decode b_N_isKey 5 = .ok (.bipush 32, 2) := by decide +kernel
theorem d_N_isKey_7 : decode b_N_isKey 7 = .ok (.if_icmp .ge 7, 3) := by decide +kernel
theorem d_N_isKey_10 : decode b_N_isKey 10 = .ok (.iconst 1, 1) := by decide +kernel
theorem d_N_isKey_11 : decode b_N_isKey 11 = .ok (.goto 4, 3) := by decide +kernel
theorem d_N_isKey_14 : decode b_N_isKey 14 = .ok (.iconst 0, 1) := by decide +kernel
theorem d_N_isKey_15 : decode b_N_isKey 15 = .ok (.ireturn, 1) := by decide +kernel
theorem d_N_isPage_0 : decode b_N_isPage 0 = .ok (.iload_n 0, 1) := by decide +kernel
theorem d_N_isPage_1 : decode b_N_isPage 1 = .ok (.ifCond .lt 13, 3) := by decide +kernel
theorem d_N_isPage_4 : decode b_N_isPage 4 = .ok (.iload_n 0, 1) := by decide +kernel
theorem d_N_isPage_5 : decode b_N_isPage 5 = .ok (.bipush 8, 2) := by decide +kernel
theorem d_N_isPage_7 : decode b_N_isPage 7 = .ok (.if_icmp .ge 7, 3) := by decide +kernel
theorem d_N_isPage_10 : decode b_N_isPage 10 = .ok (.iconst 1, 1) := by decide +kernel
theorem d_N_isPage_11 : decode b_N_isPage 11 = .ok (.goto 4, 3) := by decide +kernel
theorem d_N_isPage_14 : decode b_N_isPage 14 = .ok (.iconst 0, 1) := by decide +kernel
theorem d_N_isPage_15 : decode b_N_isPage 15 = .ok (.ireturn, 1) := by decide +kernel
theorem d_N_asNumber_0 : decode b_N_asNumber 0 = .ok (.iload_n 0, 1) := by decide +kernel
theorem d_N_asNumber_1 : decode b_N_asNumber 1 = .ok (.ifCond .eq 7, 3) := by decide +kernel
theorem d_N_asNumber_4 : decode b_N_asNumber 4 = .ok (.iconst 1, 1) := by decide +kernel
theorem d_N_asNumber_5 : decode b_N_asNumber 5 = .ok (.goto 4, 3) := by decide +kernel
theorem d_N_asNumber_8 : decode b_N_asNumber 8 = .ok (.iconst 0, 1) := by decide +kernel
theorem d_N_asNumber_9 : decode b_N_asNumber 9 = .ok (.ireturn, 1) := by decide +kernel
theorem d_N_refusalOf_0 : decode b_N_refusalOf 0 = .ok (.aload_n 0, 1) := by decide +kernel
theorem d_N_refusalOf_1 : decode b_N_refusalOf 1 = .ok (.getfield 12, 3) := by decide +kernel
theorem d_N_refusalOf_4 : decode b_N_refusalOf 4 = .ok (.iload_n 1, 1) := by decide +kernel
theorem d_N_refusalOf_5 : decode b_N_refusalOf 5 = .ok (.invokevirtual 62, 3) := by decide +kernel
theorem d_N_refusalOf_8 : decode b_N_refusalOf 8 = .ok (.ifCond .ne 5, 3) := by decide +kernel
theorem d_N_refusalOf_11 : decode b_N_refusalOf 11 = .ok (.iconst (-1), 1) := by decide +kernel
theorem d_N_refusalOf_12 : decode b_N_refusalOf 12 = .ok (.ireturn, 1) := by decide +kernel
theorem d_N_refusalOf_13 : decode b_N_refusalOf 13 = .ok (.aload_n 0, 1) := by decide +kernel
theorem d_N_refusalOf_14 : decode b_N_refusalOf 14 = .ok (.getfield 12, 3) := by decide +kernel
theorem d_N_refusalOf_17 : decode b_N_refusalOf 17 = .ok (.iload_n 1, 1) := by decide +kernel
theorem d_N_refusalOf_18 : decode b_N_refusalOf 18 = .ok (.invokevirtual 131, 3) := by decide +kernel
theorem d_N_refusalOf_21 : decode b_N_refusalOf 21 = .ok (.ifCond .eq 8, 3) := by decide +kernel
theorem d_N_refusalOf_24 : decode b_N_refusalOf 24 = .ok (.bipush (-4), 2) := by decide +kernel
theorem d_N_refusalOf_26 : decode b_N_refusalOf 26 = .ok (.goto 4, 3) := by decide +kernel
theorem d_N_refusalOf_29 : decode b_N_refusalOf 29 = .ok (.iconst 0, 1) := by decide +kernel
theorem d_N_refusalOf_30 : decode b_N_refusalOf 30 = .ok (.ireturn, 1) := by decide +kernel
theorem d_N_prepare_0 : decode b_N_prepare 0 = .ok (.iload_n 3, 1) := by decide +kernel
theorem d_N_prepare_1 : decode b_N_prepare 1 = .ok (.invokestatic 219, 3) := by decide +kernel
theorem d_N_prepare_4 : decode b_N_prepare 4 = .ok (.ifCond .eq 17, 3) := by decide +kernel
theorem d_N_prepare_7 : decode b_N_prepare 7 = .ok (.iload 4, 2) := by decide +kernel
theorem d_N_prepare_9 : decode b_N_prepare 9 = .ok (.invokestatic 219, 3) := by decide +kernel
theorem d_N_prepare_12 : decode b_N_prepare 12 = .ok (.ifCond .eq 9, 3) := by decide +kernel
theorem d_N_prepare_15 : decode b_N_prepare 15 = .ok (.iload_n 3, 1) := by decide +kernel
theorem d_N_prepare_16 : decode b_N_prepare 16 = .ok (.iload 4, 2) := by decide +kernel
theorem d_N_prepare_18 : decode b_N_prepare 18 = .ok (.if_icmp .le 5, 3) := by decide +kernel
theorem d_N_prepare_21 : decode b_N_prepare 21 = .ok (.iconst (-1), 1) := by decide +kernel
theorem d_N_prepare_22 : decode b_N_prepare 22 = .ok (.ireturn, 1) := by decide +kernel
theorem d_N_prepare_23 : decode b_N_prepare 23 = .ok (.aload_n 0, 1) := by decide +kernel
theorem d_N_prepare_24 : decode b_N_prepare 24 = .ok (.iload_n 1, 1) := by decide +kernel
theorem d_N_prepare_25 : decode b_N_prepare 25 = .ok (.invokevirtual 103, 3) := by decide +kernel
theorem d_N_prepare_28 : decode b_N_prepare 28 = .ok (.istore 6, 2) := by decide +kernel
theorem d_N_prepare_30 : decode b_N_prepare 30 = .ok (.iload 6, 2) := by decide +kernel
theorem d_N_prepare_32 : decode b_N_prepare 32 = .ok (.ifCond .ne 17, 3) := by decide +kernel
theorem d_N_prepare_35 : decode b_N_prepare 35 = .ok (.aload_n 0, 1) := by decide +kernel
theorem d_N_prepare_36 : decode b_N_prepare 36 = .ok (.getfield 12, 3) := by decide +kernel
theorem d_N_prepare_39 : decode b_N_prepare 39 = .ok (.iload_n 1, 1) := by decide +kernel
theorem d_N_prepare_40 : decode b_N_prepare 40 = .ok (.iload_n 2, 1) := by decide +kernel
theorem d_N_prepare_41 : decode b_N_prepare 41 = .ok (.iload_n 3, 1) := by decide +kernel
theorem d_N_prepare_42 : decode b_N_prepare 42 = .ok (.iload 4, 2) := by decide +kernel
theorem d_N_prepare_44 : decode b_N_prepare 44 = .ok (.iload 5, 2) := by decide +kernel
theorem d_N_prepare_46 : decode b_N_prepare 46 = .ok (.invokevirtual 243, 3) := by decide +kernel
theorem d_N_prepare_49 : decode b_N_prepare 49 = .ok (.iload 6, 2) := by decide +kernel
theorem d_N_prepare_51 : decode b_N_prepare 51 = .ok (.ireturn, 1) := by decide +kernel
theorem d_N_request_0 : decode b_N_request 0 = .ok (.aload_n 0, 1) := by decide +kernel
theorem d_N_request_1 : decode b_N_request 1 = .ok (.iload_n 1, 1) := by decide +kernel
theorem d_N_request_2 : decode b_N_request 2 = .ok (.invokevirtual 247, 3) := by decide +kernel
theorem d_N_request_5 : decode b_N_request 5 = .ok (.ifCond .eq 19, 3) := by decide +kernel
theorem d_N_request_8 : decode b_N_request 8 = .ok (.aload_n 0, 1) := by decide +kernel
theorem d_N_request_9 : decode b_N_request 9 = .ok (.getfield 12, 3) := by decide +kernel
theorem d_N_request_12 : decode b_N_request 12 = .ok (.getfield 106, 3) := by decide +kernel
theorem d_N_request_15 : decode b_N_request 15 = .ok (.iload_n 1, 1) := by decide +kernel
theorem d_N_request_16 : decode b_N_request 16 = .ok (.iconst 1, 1) := by decide +kernel
theorem d_N_request_17 : decode b_N_request 17 = .ok (.iastore, 1) := by decide +kernel
theorem d_N_request_18 : decode b_N_request 18 = .ok (.aload_n 0, 1) := by decide +kernel
theorem d_N_request_19 : decode b_N_request 19 = .ok (.iload_n 1, 1) := by decide +kernel
theorem d_N_request_20 : decode b_N_request 20 = .ok (.invokevirtual 250, 3) := by decide +kernel
theorem d_N_request_23 : decode b_N_request 23 = .ok (.ireturn, 1) := by decide +kernel
theorem d_N_request_24 : decode b_N_request 24 = .ok (.aload_n 0, 1) := by decide +kernel
theorem d_N_request_25 : decode b_N_request 25 = .ok (.getfield 12, 3) := by decide +kernel
theorem d_N_request_28 : decode b_N_request 28 = .ok (.getfield 106, 3) := by decide +kernel
theorem d_N_request_31 : decode b_N_request 31 = .ok (.iload_n 1, 1) := by decide +kernel
theorem d_N_request_32 : decode b_N_request 32 = .ok (.iconst 2, 1) := by decide +kernel
theorem d_N_request_33 : decode b_N_request 33 = .ok (.iastore, 1) := by decide +kernel
theorem d_N_request_34 : decode b_N_request 34 = .ok (.aload_n 0, 1) := by decide +kernel
theorem d_N_request_35 : decode b_N_request 35 = .ok (.iload_n 1, 1) := by decide +kernel
theorem d_N_request_36 : decode b_N_request 36 = .ok (.invokevirtual 253, 3) := by decide +kernel
theorem d_N_request_39 : decode b_N_request 39 = .ok (.istore_n 2, 1) := by decide +kernel
theorem d_N_request_40 : decode b_N_request 40 = .ok (.iconst 0, 1) := by decide +kernel
theorem d_N_request_41 : decode b_N_request 41 = .ok (.istore_n 3, 1) := by decide +kernel
theorem d_N_request_42 : decode b_N_request 42 = .ok (.iload_n 3, 1) := by decide +kernel
theorem d_N_request_43 : decode b_N_request 43 = .ok (.bipush 60, 2) := by decide +kernel
theorem d_N_request_45 : decode b_N_request 45 = .ok (.if_icmp .ge 26, 3) := by decide +kernel
