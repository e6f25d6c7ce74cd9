theorem d_D_init_0 : decode b_D_init 0 = .ok (.aload_n 0, 1) := by decide +kernel
theorem d_D_init_1 : decode b_D_init 1 = .ok (.invokespecial 3, 3) := by decide +kernel
theorem d_D_init_4 : decode b_D_init 4 = .ok (.aload_n 0, 1) := by decide +kernel
theorem d_D_init_5 : decode b_D_init 5 = .ok (.bipush 60, 2) := by decide +kernel
theorem d_D_init_7 : decode b_D_init 7 = .ok (.newarray .long, 2) := by decide +kernel
theorem d_D_init_9 : decode b_D_init 9 = .ok (.putfield 9, 3) := by decide +kernel
theorem d_D_init_12 : decode b_D_init 12 = .ok (.return_, 1) := by decide +kernel
theorem d_D_greatestInCircle_0 : decode b_D_greatestInCircle 0 = .ok (.aload_n 0, 1) := by decide +kernel
theorem d_D_greatestInCircle_1 : decode b_D_greatestInCircle 1 = .ok (.iload_n 1, 1) := by decide +kernel
theorem d_D_greatestInCircle_2 : decode b_D_greatestInCircle 2 = .ok (.iload_n 2, 1) := by decide +kernel
theorem d_D_greatestInCircle_3 : decode b_D_greatestInCircle 3 = .ok (.invokevirtual 15, 3) := by decide +kernel
theorem d_D_greatestInCircle_6 : decode b_D_greatestInCircle 6 = .ok (.lstore_n 3, 1) := by decide +kernel
theorem d_D_greatestInCircle_7 : decode b_D_greatestInCircle 7 = .ok (.lload_n 3, 1) := by decide +kernel
theorem d_D_greatestInCircle_8 : decode b_D_greatestInCircle 8 = .ok (.lconst 1, 1) := by decide +kernel
theorem d_D_greatestInCircle_9 : decode b_D_greatestInCircle 9 = .ok (.iload_n 1, 1) := by decide +kernel
theorem d_D_greatestInCircle_10 : decode b_D_greatestInCircle 10 = .ok (.lshl, 1) := by decide +kernel
theorem d_D_greatestInCircle_11 : decode b_D_greatestInCircle 11 = .ok (.land, 1) := by decide +kernel
theorem d_D_greatestInCircle_12 : decode b_D_greatestInCircle 12 = .ok (.lconst 0, 1) := by decide +kernel
theorem d_D_greatestInCircle_13 : decode b_D_greatestInCircle 13 = .ok (.lcmp, 1) := by decide +kernel
theorem d_D_greatestInCircle_14 : decode b_D_greatestInCircle 14 = .ok (.ifCond .ne 5, 3) := by decide +kernel
theorem d_D_greatestInCircle_17 : decode b_D_greatestInCircle 17 = .ok (.iconst (-1), 1) := by decide +kernel
theorem d_D_greatestInCircle_18 : decode b_D_greatestInCircle 18 = .ok (.ireturn, 1) := by decide +kernel
theorem d_D_greatestInCircle_19 : decode b_D_greatestInCircle 19 = .ok (.lload_n 3, 1) := by decide +kernel
theorem d_D_greatestInCircle_20 : decode b_D_greatestInCircle 20 = .ok (.aload_n 0, 1) := by decide +kernel
theorem d_D_greatestInCircle_21 : decode b_D_greatestInCircle 21 = .ok (.iload_n 1, 1) := by decide +kernel
theorem d_D_greatestInCircle_22 : decode b_D_greatestInCircle 22 = .ok (.iload_n 2, 1) := by decide +kernel
theorem d_D_greatestInCircle_23 : decode b_D_greatestInCircle 23 = .ok (.invokevirtual 19, 3) := by decide +kernel
theorem d_D_greatestInCircle_26 : decode b_D_greatestInCircle 26 = .ok (.land, 1) := by decide +kernel
theorem d_D_greatestInCircle_27 : decode b_D_greatestInCircle 27 = .ok (.lstore 5, 2) := by decide +kernel
theorem d_D_greatestInCircle_29 : decode b_D_greatestInCircle 29 = .ok (.iload_n 2, 1) := by decide +kernel
theorem d_D_greatestInCircle_30 : decode b_D_greatestInCircle 30 = .ok (.iconst 1, 1) := by decide +kernel
theorem d_D_greatestInCircle_31 : decode b_D_greatestInCircle 31 = .ok (.isub, 1) := by decide +kernel
theorem d_D_greatestInCircle_32 : decode b_D_greatestInCircle 32 = .ok (.istore 7, 2) := by decide +kernel
theorem d_D_greatestInCircle_34 : decode b_D_greatestInCircle 34 = .ok (.iload 7, 2) := by decide +kernel
theorem d_D_greatestInCircle_36 : decode b_D_greatestInCircle 36 = .ok (.iload_n 1, 1) := by decide +kernel
theorem d_D_greatestInCircle_37 : decode b_D_greatestInCircle 37 = .ok (.if_icmp .le 24, 3) := by decide +kernel
theorem d_D_greatestInCircle_40 : decode b_D_greatestInCircle 40 = .ok (.lload 5, 2) := by decide +kernel
theorem d_D_greatestInCircle_42 : decode b_D_greatestInCircle 42 = .ok (.lconst 1, 1) := by decide +kernel
theorem d_D_greatestInCircle_43 : decode b_D_greatestInCircle 43 = .ok (.iload 7, 2) := by decide +kernel
theorem d_D_greatestInCircle_45 : decode b_D_greatestInCircle 45 = .ok (.lshl, 1) := by decide +kernel
theorem d_D_greatestInCircle_46 : decode b_D_greatestInCircle 46 = .ok (.land, 1) := by decide +kernel
theorem d_D_greatestInCircle_47 : decode b_D_greatestInCircle 47 = .ok (.lconst 0, 1) := by decide +kernel
theorem d_D_greatestInCircle_48 : decode b_D_greatestInCircle 48 = .ok (.lcmp, 1) := by decide +kernel
theorem d_D_greatestInCircle_49 : decode b_D_greatestInCircle 49 = .ok (.ifCond .eq 6, 3) := by decide +kernel
theorem d_D_greatestInCircle_52 : decode b_D_greatestInCircle 52 = .ok (.iload 7, 2) := by decide +kernel
theorem d_D_greatestInCircle_54 : decode b_D_greatestInCircle 54 = .ok (.ireturn, 1) := by decide +kernel
theorem d_D_greatestInCircle_55 : decode b_D_greatestInCircle 55 = .ok (.iinc 7 (-1), 3) := by decide +kernel
theorem d_D_greatestInCircle_58 : decode b_D_greatestInCircle 58 = .ok (.goto (-24), 3) := by decide +kernel
theorem d_D_greatestInCircle_61 : decode b_D_greatestInCircle 61 = .ok (.iload_n 1, 1) := by decide +kernel
theorem d_D_greatestInCircle_62 : decode b_D_greatestInCircle 62 = .ok (.ireturn, 1) := by decide +kernel
theorem d_D_reachedFrom_0 : decode b_D_reachedFrom 0 = .ok (.aload_n 0, 1) := by decide +kernel
theorem d_D_reachedFrom_1 : decode b_D_reachedFrom 1 = .ok (.getfield 9, 3) := by decide +kernel
theorem d_D_reachedFrom_4 : decode b_D_reachedFrom 4 = .ok (.iload_n 1, 1) := by decide +kernel
theorem d_D_reachedFrom_5 : decode b_D_reachedFrom 5 = .ok (.laload, 1) := by decide +kernel
theorem d_D_reachedFrom_6 : decode b_D_reachedFrom 6 = .ok (.lstore_n 3, 1) := by decide +kernel
theorem d_D_reachedFrom_7 : decode b_D_reachedFrom 7 = .ok (.iconst 0, 1) := by decide +kernel
theorem d_D_reachedFrom_8 : decode b_D_reachedFrom 8 = .ok (.istore 5, 2) := by decide +kernel
theorem d_D_reachedFrom_10 : decode b_D_reachedFrom 10 = .ok (.iload 5, 2) := by decide +kernel
theorem d_D_reachedFrom_12 : decode b_D_reachedFrom 12 = .ok (.iload_n 2, 1) := by decide +kernel
theorem d_D_reachedFrom_13 : decode b_D_reachedFrom 13 = .ok (.if_icmp .ge 58, 3) := by decide +kernel
theorem d_D_reachedFrom_16 : decode b_D_reachedFrom 16 = .ok (.lload_n 3, 1) := by decide +kernel
theorem d_D_reachedFrom_17 : decode b_D_reachedFrom 17 = .ok (.lstore 6, 2) := by decide +kernel
theorem d_D_reachedFrom_19 : decode b_D_reachedFrom 19 = .ok (.iconst 0, 1) := by decide +kernel
theorem d_D_reachedFrom_20 : decode b_D_reachedFrom 20 = .ok (.istore 8, 2) := by decide +kernel
theorem d_D_reachedFrom_22 : decode b_D_reachedFrom 22 = .ok (.iload 8, 2) := by decide +kernel
theorem d_D_reachedFrom_24 : decode b_D_reachedFrom 24 = .ok (.iload_n 2, 1) := by decide +kernel
theorem d_D_reachedFrom_25 : decode b_D_reachedFrom 25 = .ok (.if_icmp .ge 30, 3) := by decide +kernel
theorem d_D_reachedFrom_28 : decode b_D_reachedFrom 28 = .ok (.lload_n 3, 1) := by decide +kernel
theorem d_D_reachedFrom_29 : decode b_D_reachedFrom 29 = .ok (.lconst 1, 1) := by decide +kernel
theorem d_D_reachedFrom_30 : decode b_D_reachedFrom 30 = .ok (.iload 8, 2) := by decide +kernel
theorem d_D_reachedFrom_32 : decode b_D_reachedFrom 32 = .ok (.lshl, 1) := by decide +kernel
theorem d_D_reachedFrom_33 : decode b_D_reachedFrom 33 = .ok (.land, 1) := by decide +kernel
theorem d_D_reachedFrom_34 : decode b_D_reachedFrom 34 = .ok (.lconst 0, 1) := by decide +kernel
theorem d_D_reachedFrom_35 : decode b_D_reachedFrom 35 = .ok (.lcmp, 1) := by decide +kernel
theorem d_D_reachedFrom_36 : decode b_D_reachedFrom 36 = .ok (.ifCond .eq 13, 3) := by decide +kernel
theorem d_D_reachedFrom_39 : decode b_D_reachedFrom 39 = .ok (.lload_n 3, 1) := by decide +kernel
theorem d_D_reachedFrom_40 : decode b_D_reachedFrom 40 = .ok (.aload_n 0, 1) := by decide +kernel
theorem d_D_reachedFrom_41 : decode b_D_reachedFrom 41 = .ok (.getfield 9, 3) := by decide +kernel
theorem d_D_reachedFrom_44 : decode b_D_reachedFrom 44 = .ok (.iload 8, 2) := by decide +kernel
theorem d_D_reachedFrom_46 : decode b_D_reachedFrom 46 = .ok (.laload, 1) := by decide +kernel
theorem d_D_reachedFrom_47 : decode b_D_reachedFrom 47 = .ok (.lor, 1) := by decide +kernel
theorem d_D_reachedFrom_48 : decode b_D_reachedFrom 48 = .ok (.lstore_n 3, 1) := by decide +kernel
theorem d_D_reachedFrom_49 : decode b_D_reachedFrom 49 = .ok (.iinc 8 1, 3) := by decide +kernel
theorem d_D_reachedFrom_52 : decode b_D_reachedFrom 52 = .ok (.goto (-30), 3) := by decide +kernel
theorem d_D_reachedFrom_55 : decode b_D_reachedFrom 55 = .ok (.lload_n 3, 1) := by decide +kernel
theorem d_D_reachedFrom_56 : decode b_D_reachedFrom 56 = .ok (.lload 6, 2) := by decide +kernel
theorem d_D_reachedFrom_58 : decode b_D_reachedFrom 58 = .ok (.lcmp, 1) := by decide +kernel
theorem d_D_reachedFrom_59 : decode b_D_reachedFrom 59 = .ok (.ifCond .ne 6, 3) := by decide +kernel
theorem d_D_reachedFrom_62 : decode b_D_reachedFrom 62 = .ok (.goto 9, 3) := by decide +kernel
theorem d_D_reachedFrom_65 : decode b_D_reachedFrom 65 = .ok (.iinc 5 1, 3) := by decide +kernel
theorem d_D_reachedFrom_68 : decode b_D_reachedFrom 68 = .ok (.goto (-58), 3) := by decide +kernel
theorem d_D_reachedFrom_71 : decode b_D_reachedFrom 71 = .ok (.lload_n 3, 1) := by decide +kernel
theorem d_D_reachedFrom_72 : decode b_D_reachedFrom 72 = .ok (.lreturn, 1) := by decide +kernel
theorem d_D_leadingTo_0 : decode b_D_leadingTo 0 = .ok (.lconst 1, 1) := by decide +kernel
theorem d_D_leadingTo_1 : decode b_D_leadingTo 1 = .ok (.iload_n 1, 1) := by decide +kernel
theorem d_D_leadingTo_2 : decode b_D_leadingTo 2 = .ok (.lshl, 1) := by decide +kernel
theorem d_D_leadingTo_3 : decode b_D_leadingTo 3 = .ok (.lstore_n 3, 1) := by decide +kernel
theorem d_D_leadingTo_4 : decode b_D_leadingTo 4 = .ok (.iconst 0, 1) := by decide +kernel
theorem d_D_leadingTo_5 : decode b_D_leadingTo 5 = .ok (.istore 5, 2) := by decide +kernel
theorem d_D_leadingTo_7 : decode b_D_leadingTo 7 = .ok (.iload 5, 2) := by decide +kernel
theorem d_D_leadingTo_9 : decode b_D_leadingTo 9 = .ok (.iload_n 2, 1) := by decide +kernel
theorem d_D_leadingTo_10 : decode b_D_leadingTo 10 = .ok (.if_icmp .ge 58, 3) := by decide +kernel
theorem d_D_leadingTo_13 : decode b_D_leadingTo 13 = .ok (.lload_n 3, 1) := by decide +kernel
theorem d_D_leadingTo_14 : decode b_D_leadingTo 14 = .ok (.lstore 6, 2) := by decide +kernel
theorem d_D_leadingTo_16 : decode b_D_leadingTo 16 = .ok (.iconst 0, 1) := by decide +kernel
theorem d_D_leadingTo_17 : decode b_D_leadingTo 17 = .ok (.istore 8, 2) := by decide +kernel
theorem d_D_leadingTo_19 : decode b_D_leadingTo 19 = .ok (.iload 8, 2) := by decide +kernel
theorem d_D_leadingTo_21 : decode b_D_leadingTo 21 = .ok (.iload_n 2, 1) := by decide +kernel
theorem d_D_leadingTo_22 : decode b_D_leadingTo 22 = .ok (.if_icmp .ge 30, 3) := by decide +kernel
theorem d_D_leadingTo_25 : decode b_D_leadingTo 25 = .ok (.lload_n 3, 1) := by decide +kernel
theorem d_D_leadingTo_26 : decode b_D_leadingTo 26 = .ok (.aload_n 0, 1) := by decide +kernel
theorem d_D_leadingTo_27 : decode b_D_leadingTo 27 = .ok (.getfield 9, 3) := by decide +kernel
theorem d_D_leadingTo_30 : decode b_D_leadingTo 30 = .ok (.iload 8, 2) := by decide +kernel
theorem d_D_leadingTo_32 : decode b_D_leadingTo 32 = .ok (.laload, 1) := by decide +kernel
theorem d_D_leadingTo_33 : decode b_D_leadingTo 33 = .ok (.land, 1) := by decide +kernel
theorem d_D_leadingTo_34 : decode b_D_leadingTo 34 = .ok (.lconst 0, 1) := by decide +kernel
theorem d_D_leadingTo_35 : decode b_D_leadingTo 35 = .ok (.lcmp, 1) := by decide +kernel
theorem d_D_leadingTo_36 : decode b_D_leadingTo 36 = .ok (.ifCond .eq 10, 3) := by decide +kernel
theorem d_D_leadingTo_39 : decode b_D_leadingTo 39 = .ok (.lload_n 3, 1) := by decide +kernel
theorem d_D_leadingTo_40 : decode b_D_leadingTo 40 = .ok (.lconst 1, 1) := by decide +kernel
theorem d_D_leadingTo_41 : decode b_D_leadingTo 41 = .ok (.iload 8, 2) := by decide +kernel
theorem d_D_leadingTo_43 : decode b_D_leadingTo 43 = .ok (.lshl, 1) := by decide +kernel
theorem d_D_leadingTo_44 : decode b_D_leadingTo 44 = .ok (.lor, 1) := by decide +kernel
theorem d_D_leadingTo_45 : decode b_D_leadingTo 45 = .ok (.lstore_n 3, 1) := by decide +kernel
theorem d_D_leadingTo_46 : decode b_D_leadingTo 46 = .ok (.iinc 8 1, 3) := by decide +kernel
theorem d_D_leadingTo_49 : decode b_D_leadingTo 49 = .ok (.goto (-30), 3) := by decide +kernel
theorem d_D_leadingTo_52 : decode b_D_leadingTo 52 = .ok (.lload_n 3, 1) := by decide +kernel
theorem d_D_leadingTo_53 : decode b_D_leadingTo 53 = .ok (.lload 6, 2) := by decide +kernel
theorem d_D_leadingTo_55 : decode b_D_leadingTo 55 = .ok (.lcmp, 1) := by decide +kernel
theorem d_D_leadingTo_56 : decode b_D_leadingTo 56 = .ok (.ifCond .ne 6, 3) := by decide +kernel
theorem d_D_leadingTo_59 : decode b_D_leadingTo 59 = .ok (.goto 9, 3) := by decide +kernel
theorem d_D_leadingTo_62 : decode b_D_leadingTo 62 = .ok (.iinc 5 1, 3) := by decide +kernel
theorem d_D_leadingTo_65 : decode b_D_leadingTo 65 = .ok (.goto (-58), 3) := by decide +kernel
theorem d_D_leadingTo_68 : decode b_D_leadingTo 68 = .ok (.lload_n 3, 1) := by decide +kernel
theorem d_D_leadingTo_69 : decode b_D_leadingTo 69 = .ok (.lreturn, 1) := by decide +kernel
