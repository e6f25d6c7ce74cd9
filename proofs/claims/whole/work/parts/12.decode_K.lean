theorem kc_K_18 : Cond.constantLong R_K 18 (-1) ∈ wA := wA_t 363 (by decide +kernel) rfl
theorem d_K_init_0 : decode b_K_init 0 = .ok (.aload_n 0, 1) := by decide +kernel
theorem d_K_init_1 : decode b_K_init 1 = .ok (.invokespecial 3, 3) := by decide +kernel
theorem d_K_init_4 : decode b_K_init 4 = .ok (.aload_n 0, 1) := by decide +kernel
theorem d_K_init_5 : decode b_K_init 5 = .ok (.bipush 33, 2) := by decide +kernel
theorem d_K_init_7 : decode b_K_init 7 = .ok (.newarray .long, 2) := by decide +kernel
theorem d_K_init_9 : decode b_K_init 9 = .ok (.putfield 9, 3) := by decide +kernel
theorem d_K_init_12 : decode b_K_init 12 = .ok (.aload_n 0, 1) := by decide +kernel
theorem d_K_init_13 : decode b_K_init 13 = .ok (.bipush 33, 2) := by decide +kernel
theorem d_K_init_15 : decode b_K_init 15 = .ok (.newarray .long, 2) := by decide +kernel
theorem d_K_init_17 : decode b_K_init 17 = .ok (.putfield 15, 3) := by decide +kernel
theorem d_K_init_20 : decode b_K_init 20 = .ok (.return_, 1) := by decide +kernel
theorem d_K_heldBy_0 : decode b_K_heldBy 0 = .ok (.aload_n 0, 1) := by decide +kernel
theorem d_K_heldBy_1 : decode b_K_heldBy 1 = .ok (.getfield 15, 3) := by decide +kernel
theorem d_K_heldBy_4 : decode b_K_heldBy 4 = .ok (.iload_n 2, 1) := by decide +kernel
theorem d_K_heldBy_5 : decode b_K_heldBy 5 = .ok (.laload, 1) := by decide +kernel
theorem d_K_heldBy_6 : decode b_K_heldBy 6 = .ok (.lconst 1, 1) := by decide +kernel
theorem d_K_heldBy_7 : decode b_K_heldBy 7 = .ok (.iload_n 1, 1) := by decide +kernel
theorem d_K_heldBy_8 : decode b_K_heldBy 8 = .ok (.lshl, 1) := by decide +kernel
theorem d_K_heldBy_9 : decode b_K_heldBy 9 = .ok (.land, 1) := by decide +kernel
theorem d_K_heldBy_10 : decode b_K_heldBy 10 = .ok (.lconst 0, 1) := by decide +kernel
theorem d_K_heldBy_11 : decode b_K_heldBy 11 = .ok (.lcmp, 1) := by decide +kernel
theorem d_K_heldBy_12 : decode b_K_heldBy 12 = .ok (.ifCond .eq 5, 3) := by decide +kernel
theorem d_K_heldBy_15 : decode b_K_heldBy 15 = .ok (.iconst 2, 1) := by decide +kernel
theorem d_K_heldBy_16 : decode b_K_heldBy 16 = .ok (.ireturn, 1) := by decide +kernel
theorem d_K_heldBy_17 : decode b_K_heldBy 17 = .ok (.aload_n 0, 1) := by decide +kernel
theorem d_K_heldBy_18 : decode b_K_heldBy 18 = .ok (.getfield 9, 3) := by decide +kernel
theorem d_K_heldBy_21 : decode b_K_heldBy 21 = .ok (.iload_n 2, 1) := by decide +kernel
theorem d_K_heldBy_22 : decode b_K_heldBy 22 = .ok (.laload, 1) := by decide +kernel
theorem d_K_heldBy_23 : decode b_K_heldBy 23 = .ok (.lconst 1, 1) := by decide +kernel
theorem d_K_heldBy_24 : decode b_K_heldBy 24 = .ok (.iload_n 1, 1) := by decide +kernel
theorem d_K_heldBy_25 : decode b_K_heldBy 25 = .ok (.lshl, 1) := by decide +kernel
theorem d_K_heldBy_26 : decode b_K_heldBy 26 = .ok (.land, 1) := by decide +kernel
theorem d_K_heldBy_27 : decode b_K_heldBy 27 = .ok (.lconst 0, 1) := by decide +kernel
theorem d_K_heldBy_28 : decode b_K_heldBy 28 = .ok (.lcmp, 1) := by decide +kernel
theorem d_K_heldBy_29 : decode b_K_heldBy 29 = .ok (.ifCond .eq 7, 3) := by decide +kernel
theorem d_K_heldBy_32 : decode b_K_heldBy 32 = .ok (.iconst 1, 1) := by decide +kernel
theorem d_K_heldBy_33 : decode b_K_heldBy 33 = .ok (.goto 4, 3) := by decide +kernel
theorem d_K_heldBy_36 : decode b_K_heldBy 36 = .ok (.iconst 0, 1) := by decide +kernel
theorem d_K_heldBy_37 : decode b_K_heldBy 37 = .ok (.ireturn, 1) := by decide +kernel
theorem d_K_blockers_0 : decode b_K_blockers 0 = .ok (.iload_n 2, 1) := by decide +kernel
theorem d_K_blockers_1 : decode b_K_blockers 1 = .ok (.iconst 2, 1) := by decide +kernel
theorem d_K_blockers_2 : decode b_K_blockers 2 = .ok (.if_icmp .ne 19, 3) := by decide +kernel
theorem d_K_blockers_5 : decode b_K_blockers 5 = .ok (.aload_n 0, 1) := by decide +kernel
theorem d_K_blockers_6 : decode b_K_blockers 6 = .ok (.getfield 9, 3) := by decide +kernel
theorem d_K_blockers_9 : decode b_K_blockers 9 = .ok (.iload_n 1, 1) := by decide +kernel
theorem d_K_blockers_10 : decode b_K_blockers 10 = .ok (.laload, 1) := by decide +kernel
theorem d_K_blockers_11 : decode b_K_blockers 11 = .ok (.aload_n 0, 1) := by decide +kernel
theorem d_K_blockers_12 : decode b_K_blockers 12 = .ok (.getfield 15, 3) := by decide +kernel
theorem d_K_blockers_15 : decode b_K_blockers 15 = .ok (.iload_n 1, 1) := by decide +kernel
theorem d_K_blockers_16 : decode b_K_blockers 16 = .ok (.laload, 1) := by decide +kernel
theorem d_K_blockers_17 : decode b_K_blockers 17 = .ok (.lor, 1) := by decide +kernel
theorem d_K_blockers_18 : decode b_K_blockers 18 = .ok (.goto 9, 3) := by decide +kernel
theorem d_K_blockers_21 : decode b_K_blockers 21 = .ok (.aload_n 0, 1) := by decide +kernel
theorem d_K_blockers_22 : decode b_K_blockers 22 = .ok (.getfield 15, 3) := by decide +kernel
theorem d_K_blockers_25 : decode b_K_blockers 25 = .ok (.iload_n 1, 1) := by decide +kernel
theorem d_K_blockers_26 : decode b_K_blockers 26 = .ok (.laload, 1) := by decide +kernel
theorem d_K_blockers_27 : decode b_K_blockers 27 = .ok (.lstore 5, 2) := by decide +kernel
theorem d_K_blockers_29 : decode b_K_blockers 29 = .ok (.lload 5, 2) := by decide +kernel
theorem d_K_blockers_31 : decode b_K_blockers 31 = .ok (.lload_n 3, 1) := by decide +kernel
theorem d_K_blockers_32 : decode b_K_blockers 32 = .ok (.ldc2_w 18, 3) := by decide +kernel
theorem d_K_blockers_35 : decode b_K_blockers 35 = .ok (.lxor, 1) := by decide +kernel
theorem d_K_blockers_36 : decode b_K_blockers 36 = .ok (.land, 1) := by decide +kernel
theorem d_K_blockers_37 : decode b_K_blockers 37 = .ok (.lreturn, 1) := by decide +kernel
theorem d_K_grant_0 : decode b_K_grant 0 = .ok (.iload_n 3, 1) := by decide +kernel
theorem d_K_grant_1 : decode b_K_grant 1 = .ok (.aload_n 0, 1) := by decide +kernel
theorem d_K_grant_2 : decode b_K_grant 2 = .ok (.iload_n 1, 1) := by decide +kernel
theorem d_K_grant_3 : decode b_K_grant 3 = .ok (.iload_n 2, 1) := by decide +kernel
theorem d_K_grant_4 : decode b_K_grant 4 = .ok (.invokevirtual 20, 3) := by decide +kernel
theorem d_K_grant_7 : decode b_K_grant 7 = .ok (.if_icmp .gt 4, 3) := by decide +kernel
theorem d_K_grant_10 : decode b_K_grant 10 = .ok (.return_, 1) := by decide +kernel
theorem d_K_grant_11 : decode b_K_grant 11 = .ok (.iload_n 3, 1) := by decide +kernel
theorem d_K_grant_12 : decode b_K_grant 12 = .ok (.iconst 2, 1) := by decide +kernel
theorem d_K_grant_13 : decode b_K_grant 13 = .ok (.if_icmp .ne 34, 3) := by decide +kernel
theorem d_K_grant_16 : decode b_K_grant 16 = .ok (.aload_n 0, 1) := by decide +kernel
theorem d_K_grant_17 : decode b_K_grant 17 = .ok (.getfield 9, 3) := by decide +kernel
theorem d_K_grant_20 : decode b_K_grant 20 = .ok (.iload_n 2, 1) := by decide +kernel
theorem d_K_grant_21 : decode b_K_grant 21 = .ok (.dup2, 1) := by decide +kernel
theorem d_K_grant_22 : decode b_K_grant 22 = .ok (.laload, 1) := by decide +kernel
theorem d_K_grant_23 : decode b_K_grant 23 = .ok (.lconst 1, 1) := by decide +kernel
theorem d_K_grant_24 : decode b_K_grant 24 = .ok (.iload_n 1, 1) := by decide +kernel
theorem d_K_grant_25 : decode b_K_grant 25 = .ok (.lshl, 1) := by decide +kernel
theorem d_K_grant_26 : decode b_K_grant 26 = .ok (.ldc2_w 18, 3) := by decide +kernel
theorem d_K_grant_29 : decode b_K_grant 29 = .ok (.lxor, 1) := by decide +kernel
theorem d_K_grant_30 : decode b_K_grant 30 = .ok (.land, 1) := by decide +kernel
theorem d_K_grant_31 : decode b_K_grant 31 = .ok (.lastore, 1) := by decide +kernel
theorem d_K_grant_32 : decode b_K_grant 32 = .ok (.aload_n 0, 1) := by decide +kernel
theorem d_K_grant_33 : decode b_K_grant 33 = .ok (.getfield 15, 3) := by decide +kernel
theorem d_K_grant_36 : decode b_K_grant 36 = .ok (.iload_n 2, 1) := by decide +kernel
theorem d_K_grant_37 : decode b_K_grant 37 = .ok (.dup2, 1) := by decide +kernel
theorem d_K_grant_38 : decode b_K_grant 38 = .ok (.laload, 1) := by decide +kernel
theorem d_K_grant_39 : decode b_K_grant 39 = .ok (.lconst 1, 1) := by decide +kernel
theorem d_K_grant_40 : decode b_K_grant 40 = .ok (.iload_n 1, 1) := by decide +kernel
theorem d_K_grant_41 : decode b_K_grant 41 = .ok (.lshl, 1) := by decide +kernel
theorem d_K_grant_42 : decode b_K_grant 42 = .ok (.lor, 1) := by decide +kernel
theorem d_K_grant_43 : decode b_K_grant 43 = .ok (.lastore, 1) := by decide +kernel
theorem d_K_grant_44 : decode b_K_grant 44 = .ok (.goto 15, 3) := by decide +kernel
theorem d_K_grant_47 : decode b_K_grant 47 = .ok (.aload_n 0, 1) := by decide +kernel
theorem d_K_grant_48 : decode b_K_grant 48 = .ok (.getfield 9, 3) := by decide +kernel
theorem d_K_grant_51 : decode b_K_grant 51 = .ok (.iload_n 2, 1) := by decide +kernel
theorem d_K_grant_52 : decode b_K_grant 52 = .ok (.dup2, 1) := by decide +kernel
theorem d_K_grant_53 : decode b_K_grant 53 = .ok (.laload, 1) := by decide +kernel
theorem d_K_grant_54 : decode b_K_grant 54 = .ok (.lconst 1, 1) := by decide +kernel
theorem d_K_grant_55 : decode b_K_grant 55 = .ok (.iload_n 1, 1) := by decide +kernel
theorem d_K_grant_56 : decode b_K_grant 56 = .ok (.lshl, 1) := by decide +kernel
theorem d_K_grant_57 : decode b_K_grant 57 = .ok (.lor, 1) := by decide +kernel
theorem d_K_grant_58 : decode b_K_grant 58 = .ok (.lastore, 1) := by decide +kernel
theorem d_K_grant_59 : decode b_K_grant 59 = .ok (.return_, 1) := by decide +kernel
theorem d_K_passOn_0 : decode b_K_passOn 0 = .ok (.iconst 0, 1) := by decide +kernel
theorem d_K_passOn_1 : decode b_K_passOn 1 = .ok (.istore_n 3, 1) := by decide +kernel
theorem d_K_passOn_2 : decode b_K_passOn 2 = .ok (.iload_n 3, 1) := by decide +kernel
theorem d_K_passOn_3 : decode b_K_passOn 3 = .ok (.bipush 33, 2) := by decide +kernel
theorem d_K_passOn_5 : decode b_K_passOn 5 = .ok (.if_icmp .ge 21, 3) := by decide +kernel
theorem d_K_passOn_8 : decode b_K_passOn 8 = .ok (.aload_n 0, 1) := by decide +kernel
theorem d_K_passOn_9 : decode b_K_passOn 9 = .ok (.iload_n 2, 1) := by decide +kernel
theorem d_K_passOn_10 : decode b_K_passOn 10 = .ok (.iload_n 3, 1) := by decide +kernel
theorem d_K_passOn_11 : decode b_K_passOn 11 = .ok (.aload_n 0, 1) := by decide +kernel
theorem d_K_passOn_12 : decode b_K_passOn 12 = .ok (.iload_n 1, 1) := by decide +kernel
theorem d_K_passOn_13 : decode b_K_passOn 13 = .ok (.iload_n 3, 1) := by decide +kernel
theorem d_K_passOn_14 : decode b_K_passOn 14 = .ok (.invokevirtual 20, 3) := by decide +kernel
theorem d_K_passOn_17 : decode b_K_passOn 17 = .ok (.invokevirtual 24, 3) := by decide +kernel
theorem d_K_passOn_20 : decode b_K_passOn 20 = .ok (.iinc 3 1, 3) := by decide +kernel
theorem d_K_passOn_23 : decode b_K_passOn 23 = .ok (.goto (-21), 3) := by decide +kernel
theorem d_K_passOn_26 : decode b_K_passOn 26 = .ok (.return_, 1) := by decide +kernel
theorem d_K_release_0 : decode b_K_release 0 = .ok (.iconst 0, 1) := by decide +kernel
theorem d_K_release_1 : decode b_K_release 1 = .ok (.istore_n 2, 1) := by decide +kernel
theorem d_K_release_2 : decode b_K_release 2 = .ok (.iload_n 2, 1) := by decide +kernel
theorem d_K_release_3 : decode b_K_release 3 = .ok (.bipush 33, 2) := by decide +kernel
theorem d_K_release_5 : decode b_K_release 5 = .ok (.if_icmp .ge 41, 3) := by decide +kernel
theorem d_K_release_8 : decode b_K_release 8 = .ok (.aload_n 0, 1) := by decide +kernel
theorem d_K_release_9 : decode b_K_release 9 = .ok (.getfield 9, 3) := by decide +kernel
theorem d_K_release_12 : decode b_K_release 12 = .ok (.iload_n 2, 1) := by decide +kernel
theorem d_K_release_13 : decode b_K_release 13 = .ok (.dup2, 1) := by decide +kernel
theorem d_K_release_14 : decode b_K_release 14 = .ok (.laload, 1) := by decide +kernel
theorem d_K_release_15 : decode b_K_release 15 = .ok (.lconst 1, 1) := by decide +kernel
theorem d_K_release_16 : decode b_K_release 16 = .ok (.iload_n 1, 1) := by decide +kernel
theorem d_K_release_17 : decode b_K_release 17 = .ok (.lshl, 1) := by decide +kernel
theorem d_K_release_18 : decode b_K_release 18 = .ok (.ldc2_w 18, 3) := by decide +kernel
theorem d_K_release_21 : decode b_K_release 21 = .ok (.lxor, 1) := by decide +kernel
theorem d_K_release_22 : decode b_K_release 22 = .ok (.land, 1) := by decide +kernel
theorem d_K_release_23 : decode b_K_release 23 = .ok (.lastore, 1) := by decide +kernel
theorem d_K_release_24 : decode b_K_release 24 = .ok (.aload_n 0, 1) := by decide +kernel
theorem d_K_release_25 : decode b_K_release 25 = .ok (.getfield 15, 3) := by decide +kernel
theorem d_K_release_28 : decode b_K_release 28 = .ok (.iload_n 2, 1) := by decide +kernel
theorem d_K_release_29 : decode b_K_release 29 = .ok (.dup2, 1) := by decide +kernel
theorem d_K_release_30 : decode b_K_release 30 = .ok (.laload, 1) := by decide +kernel
theorem d_K_release_31 : decode b_K_release 31 = .ok (.lconst 1, 1) := by decide +kernel
theorem d_K_release_32 : decode b_K_release 32 = .ok (.iload_n 1, 1) := by decide +kernel
theorem d_K_release_33 : decode b_K_release 33 = .ok (.lshl, 1) := by decide +kernel
theorem d_K_release_34 : decode b_K_release 34 = .ok (.ldc2_w 18, 3) := by decide +kernel
theorem d_K_release_37 : decode b_K_release 37 = .ok (.lxor, 1) := by decide +kernel
theorem d_K_release_38 : decode b_K_release 38 = .ok (.land, 1) := by decide +kernel
theorem d_K_release_39 : decode b_K_release 39 = .ok (.lastore, 1) := by decide +kernel
theorem d_K_release_40 : decode b_K_release 40 = .ok (.iinc 2 1, 3) := by decide +kernel
theorem d_K_release_43 : decode b_K_release 43 = .ok (.goto (-41), 3) := by decide +kernel
theorem d_K_release_46 : decode b_K_release 46 = .ok (.return_, 1) := by decide +kernel
theorem d_K_releaseAll_0 : decode b_K_releaseAll 0 = .ok (.iconst 0, 1) := by decide +kernel
theorem d_K_releaseAll_1 : decode b_K_releaseAll 1 = .ok (.istore_n 1, 1) := by decide +kernel
theorem d_K_releaseAll_2 : decode b_K_releaseAll 2 = .ok (.iload_n 1, 1) := by decide +kernel
theorem d_K_releaseAll_3 : decode b_K_releaseAll 3 = .ok (.bipush 33, 2) := by decide +kernel
theorem d_K_releaseAll_5 : decode b_K_releaseAll 5 = .ok (.if_icmp .ge 23, 3) := by decide +kernel
theorem d_K_releaseAll_8 : decode b_K_releaseAll 8 = .ok (.aload_n 0, 1) := by decide +kernel
theorem d_K_releaseAll_9 : decode b_K_releaseAll 9 = .ok (.getfield 9, 3) := by decide +kernel
theorem d_K_releaseAll_12 : decode b_K_releaseAll 12 = .ok (.iload_n 1, 1) := by decide +kernel
theorem d_K_releaseAll_13 : decode b_K_releaseAll 13 = .ok (.lconst 0, 1) := by decide +kernel
theorem d_K_releaseAll_14 : decode b_K_releaseAll 14 = .ok (.lastore, 1) := by decide +kernel
theorem d_K_releaseAll_15 : decode b_K_releaseAll 15 = .ok (.aload_n 0, 1) := by decide +kernel
theorem d_K_releaseAll_16 : decode b_K_releaseAll 16 = .ok (.getfield 15, 3) := by decide +kernel
theorem d_K_releaseAll_19 : decode b_K_releaseAll 19 = .ok (.iload_n 1, 1) := by decide +kernel
theorem d_K_releaseAll_20 : decode b_K_releaseAll 20 = .ok (.lconst 0, 1) := by decide +kernel
theorem d_K_releaseAll_21 : decode b_K_releaseAll 21 = .ok (.lastore, 1) := by decide +kernel
theorem d_K_releaseAll_22 : decode b_K_releaseAll 22 = .ok (.iinc 1 1, 3) := by decide +kernel
theorem d_K_releaseAll_25 : decode b_K_releaseAll 25 = .ok (.goto (-23), 3) := by decide +kernel
theorem d_K_releaseAll_28 : decode b_K_releaseAll 28 = .ok (.return_, 1) := by decide +kernel
