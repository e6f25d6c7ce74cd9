theorem d_M_request_41 : decode b_M_request 41 = .ok (.aload_n 0, 1) := by decide +kernel
theorem d_M_request_42 : decode b_M_request 42 = .ok (.getfield 71, 3) := by decide +kernel
theorem d_M_request_45 : decode b_M_request 45 = .ok (.iload 6, 2) := by decide +kernel
theorem d_M_request_47 : decode b_M_request 47 = .ok (.iaload, 1) := by decide +kernel
theorem d_M_request_48 : decode b_M_request 48 = .ok (.aload_n 0, 1) := by decide +kernel
theorem d_M_request_49 : decode b_M_request 49 = .ok (.getfield 178, 3) := by decide +kernel
theorem d_M_request_52 : decode b_M_request 52 = .ok (.if_icmp .ge 43, 3) := by decide +kernel
theorem d_M_request_55 : decode b_M_request 55 = .ok (.aload_n 0, 1) := by decide +kernel
theorem d_M_request_56 : decode b_M_request 56 = .ok (.iload_n 1, 1) := by decide +kernel
theorem d_M_request_57 : decode b_M_request 57 = .ok (.aload_n 0, 1) := by decide +kernel
theorem d_M_request_58 : decode b_M_request 58 = .ok (.getfield 83, 3) := by decide +kernel
theorem d_M_request_61 : decode b_M_request 61 = .ok (.iload 5, 2) := by decide +kernel
theorem d_M_request_63 : decode b_M_request 63 = .ok (.iaload, 1) := by decide +kernel
theorem d_M_request_64 : decode b_M_request 64 = .ok (.aload_n 0, 1) := by decide +kernel
theorem d_M_request_65 : decode b_M_request 65 = .ok (.getfield 178, 3) := by decide +kernel
theorem d_M_request_68 : decode b_M_request 68 = .ok (.invokevirtual 199, 3) := by decide +kernel
theorem d_M_request_71 : decode b_M_request 71 = .ok (.ifCond .ne 13, 3) := by decide +kernel
theorem d_M_request_74 : decode b_M_request 74 = .ok (.aload_n 0, 1) := by decide +kernel
theorem d_M_request_75 : decode b_M_request 75 = .ok (.iload_n 1, 1) := by decide +kernel
theorem d_M_request_76 : decode b_M_request 76 = .ok (.iload_n 2, 1) := by decide +kernel
theorem d_M_request_77 : decode b_M_request 77 = .ok (.iload_n 3, 1) := by decide +kernel
theorem d_M_request_78 : decode b_M_request 78 = .ok (.iload 4, 2) := by decide +kernel
theorem d_M_request_80 : decode b_M_request 80 = .ok (.invokevirtual 209, 3) := by decide +kernel
theorem d_M_request_83 : decode b_M_request 83 = .ok (.ireturn, 1) := by decide +kernel
theorem d_M_request_84 : decode b_M_request 84 = .ok (.aload_n 0, 1) := by decide +kernel
theorem d_M_request_85 : decode b_M_request 85 = .ok (.getfield 71, 3) := by decide +kernel
theorem d_M_request_88 : decode b_M_request 88 = .ok (.iload 6, 2) := by decide +kernel
theorem d_M_request_90 : decode b_M_request 90 = .ok (.aload_n 0, 1) := by decide +kernel
theorem d_M_request_91 : decode b_M_request 91 = .ok (.getfield 178, 3) := by decide +kernel
theorem d_M_request_94 : decode b_M_request 94 = .ok (.iastore, 1) := by decide +kernel
theorem d_M_request_95 : decode b_M_request 95 = .ok (.iinc 5 1, 3) := by decide +kernel
theorem d_M_request_98 : decode b_M_request 98 = .ok (.goto (-80), 3) := by decide +kernel
theorem d_M_request_101 : decode b_M_request 101 = .ok (.iload_n 2, 1) := by decide +kernel
theorem d_M_request_102 : decode b_M_request 102 = .ok (.iconst 1, 1) := by decide +kernel
theorem d_M_request_103 : decode b_M_request 103 = .ok (.if_icmp .ne 33, 3) := by decide +kernel
theorem d_M_request_106 : decode b_M_request 106 = .ok (.aload_n 0, 1) := by decide +kernel
theorem d_M_request_107 : decode b_M_request 107 = .ok (.iload_n 3, 1) := by decide +kernel
theorem d_M_request_108 : decode b_M_request 108 = .ok (.iconst 4, 1) := by decide +kernel
theorem d_M_request_109 : decode b_M_request 109 = .ok (.idiv, 1) := by decide +kernel
theorem d_M_request_110 : decode b_M_request 110 = .ok (.invokevirtual 125, 3) := by decide +kernel
theorem d_M_request_113 : decode b_M_request 113 = .ok (.aload_n 0, 1) := by decide +kernel
theorem d_M_request_114 : decode b_M_request 114 = .ok (.aload_n 0, 1) := by decide +kernel
theorem d_M_request_115 : decode b_M_request 115 = .ok (.iload_n 3, 1) := by decide +kernel
theorem d_M_request_116 : decode b_M_request 116 = .ok (.invokevirtual 213, 3) := by decide +kernel
theorem d_M_request_119 : decode b_M_request 119 = .ok (.putfield 216, 3) := by decide +kernel
theorem d_M_request_122 : decode b_M_request 122 = .ok (.aload_n 0, 1) := by decide +kernel
theorem d_M_request_123 : decode b_M_request 123 = .ok (.iload_n 3, 1) := by decide +kernel
theorem d_M_request_124 : decode b_M_request 124 = .ok (.invokevirtual 172, 3) := by decide +kernel
theorem d_M_request_127 : decode b_M_request 127 = .ok (.ifCond .eq 7, 3) := by decide +kernel
theorem d_M_request_130 : decode b_M_request 130 = .ok (.iconst 1, 1) := by decide +kernel
theorem d_M_request_131 : decode b_M_request 131 = .ok (.goto 4, 3) := by decide +kernel
theorem d_M_request_134 : decode b_M_request 134 = .ok (.iconst 0, 1) := by decide +kernel
theorem d_M_request_135 : decode b_M_request 135 = .ok (.ireturn, 1) := by decide +kernel
theorem d_M_request_136 : decode b_M_request 136 = .ok (.iload_n 2, 1) := by decide +kernel
theorem d_M_request_137 : decode b_M_request 137 = .ok (.iconst 4, 1) := by decide +kernel
theorem d_M_request_138 : decode b_M_request 138 = .ok (.if_icmp .ne 11, 3) := by decide +kernel
theorem d_M_request_141 : decode b_M_request 141 = .ok (.aload_n 0, 1) := by decide +kernel
theorem d_M_request_142 : decode b_M_request 142 = .ok (.iload_n 3, 1) := by decide +kernel
theorem d_M_request_143 : decode b_M_request 143 = .ok (.iload 4, 2) := by decide +kernel
theorem d_M_request_145 : decode b_M_request 145 = .ok (.invokevirtual 219, 3) := by decide +kernel
theorem d_M_request_148 : decode b_M_request 148 = .ok (.ireturn, 1) := by decide +kernel
theorem d_M_request_149 : decode b_M_request 149 = .ok (.aload_n 0, 1) := by decide +kernel
theorem d_M_request_150 : decode b_M_request 150 = .ok (.iload_n 3, 1) := by decide +kernel
theorem d_M_request_151 : decode b_M_request 151 = .ok (.invokevirtual 172, 3) := by decide +kernel
theorem d_M_request_154 : decode b_M_request 154 = .ok (.istore 5, 2) := by decide +kernel
theorem d_M_request_156 : decode b_M_request 156 = .ok (.iload_n 2, 1) := by decide +kernel
theorem d_M_request_157 : decode b_M_request 157 = .ok (.iconst 3, 1) := by decide +kernel
theorem d_M_request_158 : decode b_M_request 158 = .ok (.if_icmp .ne 10, 3) := by decide +kernel
theorem d_M_request_161 : decode b_M_request 161 = .ok (.iload 5, 2) := by decide +kernel
theorem d_M_request_163 : decode b_M_request 163 = .ok (.ifCond .ne 5, 3) := by decide +kernel
theorem d_M_request_166 : decode b_M_request 166 = .ok (.iconst 0, 1) := by decide +kernel
theorem d_M_request_167 : decode b_M_request 167 = .ok (.ireturn, 1) := by decide +kernel
theorem d_M_request_168 : decode b_M_request 168 = .ok (.aload_n 0, 1) := by decide +kernel
theorem d_M_request_169 : decode b_M_request 169 = .ok (.invokevirtual 168, 3) := by decide +kernel
theorem d_M_request_172 : decode b_M_request 172 = .ok (.ifCond .eq 6, 3) := by decide +kernel
theorem d_M_request_175 : decode b_M_request 175 = .ok (.bipush (-5), 2) := by decide +kernel
theorem d_M_request_177 : decode b_M_request 177 = .ok (.ireturn, 1) := by decide +kernel
theorem d_M_request_178 : decode b_M_request 178 = .ok (.aload_n 0, 1) := by decide +kernel
theorem d_M_request_179 : decode b_M_request 179 = .ok (.iload_n 1, 1) := by decide +kernel
theorem d_M_request_180 : decode b_M_request 180 = .ok (.iload_n 3, 1) := by decide +kernel
theorem d_M_request_181 : decode b_M_request 181 = .ok (.iload_n 2, 1) := by decide +kernel
theorem d_M_request_182 : decode b_M_request 182 = .ok (.iconst 2, 1) := by decide +kernel
theorem d_M_request_183 : decode b_M_request 183 = .ok (.if_icmp .ne 7, 3) := by decide +kernel
theorem d_M_request_186 : decode b_M_request 186 = .ok (.iconst 1, 1) := by decide +kernel
theorem d_M_request_187 : decode b_M_request 187 = .ok (.goto 4, 3) := by decide +kernel
theorem d_M_request_190 : decode b_M_request 190 = .ok (.iconst 0, 1) := by decide +kernel
theorem d_M_request_191 : decode b_M_request 191 = .ok (.iload 4, 2) := by decide +kernel
theorem d_M_request_193 : decode b_M_request 193 = .ok (.invokevirtual 223, 3) := by decide +kernel
theorem d_M_request_196 : decode b_M_request 196 = .ok (.iload_n 2, 1) := by decide +kernel
theorem d_M_request_197 : decode b_M_request 197 = .ok (.iconst 2, 1) := by decide +kernel
theorem d_M_request_198 : decode b_M_request 198 = .ok (.if_icmp .ne 7, 3) := by decide +kernel
theorem d_M_request_201 : decode b_M_request 201 = .ok (.iconst 0, 1) := by decide +kernel
theorem d_M_request_202 : decode b_M_request 202 = .ok (.goto 4, 3) := by decide +kernel
theorem d_M_request_205 : decode b_M_request 205 = .ok (.iconst 1, 1) := by decide +kernel
theorem d_M_request_206 : decode b_M_request 206 = .ok (.ireturn, 1) := by decide +kernel
theorem d_M_scanned_0 : decode b_M_scanned 0 = .ok (.iload_n 1, 1) := by decide +kernel
theorem d_M_scanned_1 : decode b_M_scanned 1 = .ok (.iconst 4, 1) := by decide +kernel
theorem d_M_scanned_2 : decode b_M_scanned 2 = .ok (.idiv, 1) := by decide +kernel
theorem d_M_scanned_3 : decode b_M_scanned 3 = .ok (.istore_n 3, 1) := by decide +kernel
theorem d_M_scanned_4 : decode b_M_scanned 4 = .ok (.iload_n 3, 1) := by decide +kernel
theorem d_M_scanned_5 : decode b_M_scanned 5 = .ok (.iload_n 2, 1) := by decide +kernel
theorem d_M_scanned_6 : decode b_M_scanned 6 = .ok (.iconst 4, 1) := by decide +kernel
theorem d_M_scanned_7 : decode b_M_scanned 7 = .ok (.idiv, 1) := by decide +kernel
theorem d_M_scanned_8 : decode b_M_scanned 8 = .ok (.if_icmp .gt 14, 3) := by decide +kernel
theorem d_M_scanned_11 : decode b_M_scanned 11 = .ok (.aload_n 0, 1) := by decide +kernel
theorem d_M_scanned_12 : decode b_M_scanned 12 = .ok (.iload_n 3, 1) := by decide +kernel
theorem d_M_scanned_13 : decode b_M_scanned 13 = .ok (.invokevirtual 125, 3) := by decide +kernel
theorem d_M_scanned_16 : decode b_M_scanned 16 = .ok (.iinc 3 1, 3) := by decide +kernel
theorem d_M_scanned_19 : decode b_M_scanned 19 = .ok (.goto (-15), 3) := by decide +kernel
theorem d_M_scanned_22 : decode b_M_scanned 22 = .ok (.iconst 0, 1) := by decide +kernel
theorem d_M_scanned_23 : decode b_M_scanned 23 = .ok (.istore_n 3, 1) := by decide +kernel
theorem d_M_scanned_24 : decode b_M_scanned 24 = .ok (.aload_n 0, 1) := by decide +kernel
theorem d_M_scanned_25 : decode b_M_scanned 25 = .ok (.iconst 0, 1) := by decide +kernel
theorem d_M_scanned_26 : decode b_M_scanned 26 = .ok (.putfield 216, 3) := by decide +kernel
theorem d_M_scanned_29 : decode b_M_scanned 29 = .ok (.iload_n 1, 1) := by decide +kernel
theorem d_M_scanned_30 : decode b_M_scanned 30 = .ok (.istore 4, 2) := by decide +kernel
theorem d_M_scanned_32 : decode b_M_scanned 32 = .ok (.iload 4, 2) := by decide +kernel
theorem d_M_scanned_34 : decode b_M_scanned 34 = .ok (.iload_n 2, 1) := by decide +kernel
theorem d_M_scanned_35 : decode b_M_scanned 35 = .ok (.if_icmp .gt 41, 3) := by decide +kernel
theorem d_M_scanned_38 : decode b_M_scanned 38 = .ok (.iload_n 3, 1) := by decide +kernel
theorem d_M_scanned_39 : decode b_M_scanned 39 = .ok (.aload_n 0, 1) := by decide +kernel
theorem d_M_scanned_40 : decode b_M_scanned 40 = .ok (.iload 4, 2) := by decide +kernel
theorem d_M_scanned_42 : decode b_M_scanned 42 = .ok (.invokevirtual 172, 3) := by decide +kernel
theorem d_M_scanned_45 : decode b_M_scanned 45 = .ok (.ifCond .eq 7, 3) := by decide +kernel
theorem d_M_scanned_48 : decode b_M_scanned 48 = .ok (.iconst 1, 1) := by decide +kernel
theorem d_M_scanned_49 : decode b_M_scanned 49 = .ok (.goto 4, 3) := by decide +kernel
theorem d_M_scanned_52 : decode b_M_scanned 52 = .ok (.iconst 0, 1) := by decide +kernel
theorem d_M_scanned_53 : decode b_M_scanned 53 = .ok (.iadd, 1) := by decide +kernel
theorem d_M_scanned_54 : decode b_M_scanned 54 = .ok (.istore_n 3, 1) := by decide +kernel
theorem d_M_scanned_55 : decode b_M_scanned 55 = .ok (.aload_n 0, 1) := by decide +kernel
theorem d_M_scanned_56 : decode b_M_scanned 56 = .ok (.dup, 1) := by decide +kernel
theorem d_M_scanned_57 : decode b_M_scanned 57 = .ok (.getfield 216, 3) := by decide +kernel
theorem d_M_scanned_60 : decode b_M_scanned 60 = .ok (.aload_n 0, 1) := by decide +kernel
theorem d_M_scanned_61 : decode b_M_scanned 61 = .ok (.iload 4, 2) := by decide +kernel
theorem d_M_scanned_63 : decode b_M_scanned 63 = .ok (.invokevirtual 213, 3) := by decide +kernel
theorem d_M_scanned_66 : decode b_M_scanned 66 = .ok (.iadd, 1) := by decide +kernel
theorem d_M_scanned_67 : decode b_M_scanned 67 = .ok (.putfield 216, 3) := by decide +kernel
theorem d_M_scanned_70 : decode b_M_scanned 70 = .ok (.iinc 4 1, 3) := by decide +kernel
theorem d_M_scanned_73 : decode b_M_scanned 73 = .ok (.goto (-41), 3) := by decide +kernel
theorem d_M_scanned_76 : decode b_M_scanned 76 = .ok (.iload_n 3, 1) := by decide +kernel
theorem d_M_scanned_77 : decode b_M_scanned 77 = .ok (.ireturn, 1) := by decide +kernel
theorem d_M_stays_0 : decode b_M_stays 0 = .ok (.aload_n 0, 1) := by decide +kernel
theorem d_M_stays_1 : decode b_M_stays 1 = .ok (.getfield 62, 3) := by decide +kernel
theorem d_M_stays_4 : decode b_M_stays 4 = .ok (.iload_n 1, 1) := by decide +kernel
theorem d_M_stays_5 : decode b_M_stays 5 = .ok (.iconst 2, 1) := by decide +kernel
theorem d_M_stays_6 : decode b_M_stays 6 = .ok (.iastore, 1) := by decide +kernel
theorem d_M_stays_7 : decode b_M_stays 7 = .ok (.aload_n 0, 1) := by decide +kernel
theorem d_M_stays_8 : decode b_M_stays 8 = .ok (.getfield 74, 3) := by decide +kernel
theorem d_M_stays_11 : decode b_M_stays 11 = .ok (.iload_n 1, 1) := by decide +kernel
theorem d_M_stays_12 : decode b_M_stays 12 = .ok (.iload_n 2, 1) := by decide +kernel
theorem d_M_stays_13 : decode b_M_stays 13 = .ok (.iastore, 1) := by decide +kernel
theorem d_M_stays_14 : decode b_M_stays 14 = .ok (.aload_n 0, 1) := by decide +kernel
theorem d_M_stays_15 : decode b_M_stays 15 = .ok (.getfield 77, 3) := by decide +kernel
theorem d_M_stays_18 : decode b_M_stays 18 = .ok (.iload_n 1, 1) := by decide +kernel
theorem d_M_stays_19 : decode b_M_stays 19 = .ok (.iload_n 3, 1) := by decide +kernel
theorem d_M_stays_20 : decode b_M_stays 20 = .ok (.iastore, 1) := by decide +kernel
theorem d_M_stays_21 : decode b_M_stays 21 = .ok (.aload_n 0, 1) := by decide +kernel
theorem d_M_stays_22 : decode b_M_stays 22 = .ok (.getfield 80, 3) := by decide +kernel
theorem d_M_stays_25 : decode b_M_stays 25 = .ok (.iload_n 1, 1) := by decide +kernel
theorem d_M_stays_26 : decode b_M_stays 26 = .ok (.iload 4, 2) := by decide +kernel
theorem d_M_stays_28 : decode b_M_stays 28 = .ok (.iastore, 1) := by decide +kernel
theorem d_M_stays_29 : decode b_M_stays 29 = .ok (.iconst 0, 1) := by decide +kernel
theorem d_M_stays_30 : decode b_M_stays 30 = .ok (.istore 5, 2) := by decide +kernel
theorem d_M_stays_32 : decode b_M_stays 32 = .ok (.iload 5, 2) := by decide +kernel
theorem d_M_stays_34 : decode b_M_stays 34 = .ok (.bipush 60, 2) := by decide +kernel
theorem d_M_stays_36 : decode b_M_stays 36 = .ok (.if_icmp .ge 39, 3) := by decide +kernel
theorem d_M_stays_39 : decode b_M_stays 39 = .ok (.aload_n 0, 1) := by decide +kernel
theorem d_M_stays_40 : decode b_M_stays 40 = .ok (.iload_n 1, 1) := by decide +kernel
theorem d_M_stays_41 : decode b_M_stays 41 = .ok (.invokevirtual 150, 3) := by decide +kernel
theorem d_M_stays_44 : decode b_M_stays 44 = .ok (.ifCond .eq 31, 3) := by decide +kernel
theorem d_M_stays_47 : decode b_M_stays 47 = .ok (.aload_n 0, 1) := by decide +kernel
theorem d_M_stays_48 : decode b_M_stays 48 = .ok (.iload_n 1, 1) := by decide +kernel
theorem d_M_stays_49 : decode b_M_stays 49 = .ok (.invokevirtual 227, 3) := by decide +kernel
theorem d_M_stays_52 : decode b_M_stays 52 = .ok (.istore 6, 2) := by decide +kernel
theorem d_M_stays_54 : decode b_M_stays 54 = .ok (.iload 6, 2) := by decide +kernel
theorem d_M_stays_56 : decode b_M_stays 56 = .ok (.ifCond .ge 6, 3) := by decide +kernel
theorem d_M_stays_59 : decode b_M_stays 59 = .ok (.bipush (-2), 2) := by decide +kernel
theorem d_M_stays_61 : decode b_M_stays 61 = .ok (.ireturn, 1) := by decide +kernel
theorem d_M_stays_62 : decode b_M_stays 62 = .ok (.aload_n 0, 1) := by decide +kernel
theorem d_M_stays_63 : decode b_M_stays 63 = .ok (.iload 6, 2) := by decide +kernel
theorem d_M_stays_65 : decode b_M_stays 65 = .ok (.invokevirtual 230, 3) := by decide +kernel
theorem d_M_stays_68 : decode b_M_stays 68 = .ok (.pop, 1) := by decide +kernel
theorem d_M_stays_69 : decode b_M_stays 69 = .ok (.iinc 5 1, 3) := by decide +kernel
theorem d_M_stays_72 : decode b_M_stays 72 = .ok (.goto (-40), 3) := by decide +kernel
theorem d_M_stays_75 : decode b_M_stays 75 = .ok (.aload_n 0, 1) := by decide +kernel
theorem d_M_stays_76 : decode b_M_stays 76 = .ok (.iload_n 1, 1) := by decide +kernel
theorem d_M_stays_77 : decode b_M_stays 77 = .ok (.invokevirtual 150, 3) := by decide +kernel
theorem d_M_stays_80 : decode b_M_stays 80 = .ok (.ifCond .eq 8, 3) := by decide +kernel
theorem d_M_stays_83 : decode b_M_stays 83 = .ok (.bipush (-2), 2) := by decide +kernel
theorem d_M_stays_85 : decode b_M_stays 85 = .ok (.goto 5, 3) := by decide +kernel
theorem d_M_stays_88 : decode b_M_stays 88 = .ok (.bipush (-3), 2) := by decide +kernel
theorem d_M_stays_90 : decode b_M_stays 90 = .ok (.ireturn, 1) := by decide +kernel
theorem d_M_ask_0 : decode b_M_ask 0 = .ok (.aload_n 0, 1) := by decide +kernel
theorem d_M_ask_1 : decode b_M_ask 1 = .ok (.iload_n 1, 1) := by decide +kernel
theorem d_M_ask_2 : decode b_M_ask 2 = .ok (.invokevirtual 233, 3) := by decide +kernel
theorem d_M_ask_5 : decode b_M_ask 5 = .ok (.ifCond .eq 8, 3) := by decide +kernel
theorem d_M_ask_8 : decode b_M_ask 8 = .ok (.bipush (-4), 2) := by decide +kernel
theorem d_M_ask_10 : decode b_M_ask 10 = .ok (.goto 12, 3) := by decide +kernel
theorem d_M_ask_13 : decode b_M_ask 13 = .ok (.aload_n 0, 1) := by decide +kernel
theorem d_M_ask_14 : decode b_M_ask 14 = .ok (.iload_n 1, 1) := by decide +kernel
theorem d_M_ask_15 : decode b_M_ask 15 = .ok (.iload_n 2, 1) := by decide +kernel
theorem d_M_ask_16 : decode b_M_ask 16 = .ok (.iload_n 3, 1) := by decide +kernel
theorem d_M_ask_17 : decode b_M_ask 17 = .ok (.iload 4, 2) := by decide +kernel
theorem d_M_ask_19 : decode b_M_ask 19 = .ok (.invokevirtual 236, 3) := by decide +kernel
theorem d_M_ask_22 : decode b_M_ask 22 = .ok (.ireturn, 1) := by decide +kernel
theorem d_M_get_0 : decode b_M_get 0 = .ok (.aload_n 0, 1) := by decide +kernel
theorem d_M_get_1 : decode b_M_get 1 = .ok (.iload_n 1, 1) := by decide +kernel
theorem d_M_get_2 : decode b_M_get 2 = .ok (.invokevirtual 162, 3) := by decide +kernel
theorem d_M_get_5 : decode b_M_get 5 = .ok (.ifCond .eq 10, 3) := by decide +kernel
theorem d_M_get_8 : decode b_M_get 8 = .ok (.iload_n 2, 1) := by decide +kernel
theorem d_M_get_9 : decode b_M_get 9 = .ok (.invokestatic 239, 3) := by decide +kernel
theorem d_M_get_12 : decode b_M_get 12 = .ok (.ifCond .ne 7, 3) := by decide +kernel
theorem d_M_get_15 : decode b_M_get 15 = .ok (.iconst (-1), 1) := by decide +kernel
theorem d_M_get_16 : decode b_M_get 16 = .ok (.goto 11, 3) := by decide +kernel
theorem d_M_get_19 : decode b_M_get 19 = .ok (.aload_n 0, 1) := by decide +kernel
theorem d_M_get_20 : decode b_M_get 20 = .ok (.iload_n 1, 1) := by decide +kernel
theorem d_M_get_21 : decode b_M_get 21 = .ok (.iconst 1, 1) := by decide +kernel
theorem d_M_get_22 : decode b_M_get 22 = .ok (.iload_n 2, 1) := by decide +kernel
theorem d_M_get_23 : decode b_M_get 23 = .ok (.iconst 0, 1) := by decide +kernel
theorem d_M_get_24 : decode b_M_get 24 = .ok (.invokevirtual 242, 3) := by decide +kernel
theorem d_M_get_27 : decode b_M_get 27 = .ok (.ireturn, 1) := by decide +kernel
theorem d_M_put_0 : decode b_M_put 0 = .ok (.aload_n 0, 1) := by decide +kernel
theorem d_M_put_1 : decode b_M_put 1 = .ok (.iload_n 1, 1) := by decide +kernel
theorem d_M_put_2 : decode b_M_put 2 = .ok (.invokevirtual 162, 3) := by decide +kernel
theorem d_M_put_5 : decode b_M_put 5 = .ok (.ifCond .eq 10, 3) := by decide +kernel
theorem d_M_put_8 : decode b_M_put 8 = .ok (.iload_n 2, 1) := by decide +kernel
theorem d_M_put_9 : decode b_M_put 9 = .ok (.invokestatic 239, 3) := by decide +kernel
theorem d_M_put_12 : decode b_M_put 12 = .ok (.ifCond .ne 7, 3) := by decide +kernel
theorem d_M_put_15 : decode b_M_put 15 = .ok (.iconst (-1), 1) := by decide +kernel
theorem d_M_put_16 : decode b_M_put 16 = .ok (.goto 11, 3) := by decide +kernel
theorem d_M_put_19 : decode b_M_put 19 = .ok (.aload_n 0, 1) := by decide +kernel
theorem d_M_put_20 : decode b_M_put 20 = .ok (.iload_n 1, 1) := by decide +kernel
theorem d_M_put_21 : decode b_M_put 21 = .ok (.iconst 2, 1) := by decide +kernel
theorem d_M_put_22 : decode b_M_put 22 = .ok (.iload_n 2, 1) := by decide +kernel
theorem d_M_put_23 : decode b_M_put 23 = .ok (.iload_n 3, 1) := by decide +kernel
theorem d_M_put_24 : decode b_M_put 24 = .ok (.invokevirtual 242, 3) := by decide +kernel
theorem d_M_put_27 : decode b_M_put 27 = .ok (.ireturn, 1) := by decide +kernel
theorem d_M_delete_0 : decode b_M_delete 0 = .ok (.aload_n 0, 1) := by decide +kernel
theorem d_M_delete_1 : decode b_M_delete 1 = .ok (.iload_n 1, 1) := by decide +kernel
theorem d_M_delete_2 : decode b_M_delete 2 = .ok (.invokevirtual 162, 3) := by decide +kernel
theorem d_M_delete_5 : decode b_M_delete 5 = .ok (.ifCond .eq 10, 3) := by decide +kernel
theorem d_M_delete_8 : decode b_M_delete 8 = .ok (.iload_n 2, 1) := by decide +kernel
theorem d_M_delete_9 : decode b_M_delete 9 = .ok (.invokestatic 239, 3) := by decide +kernel
theorem d_M_delete_12 : decode b_M_delete 12 = .ok (.ifCond .ne 7, 3) := by decide +kernel
theorem d_M_delete_15 : decode b_M_delete 15 = .ok (.iconst (-1), 1) := by decide +kernel
theorem d_M_delete_16 : decode b_M_delete 16 = .ok (.goto 11, 3) := by decide +kernel
theorem d_M_delete_19 : decode b_M_delete 19 = .ok (.aload_n 0, 1) := by decide +kernel
theorem d_M_delete_20 : decode b_M_delete 20 = .ok (.iload_n 1, 1) := by decide +kernel
theorem d_M_delete_21 : decode b_M_delete 21 = .ok (.iconst 3, 1) := by decide +kernel
theorem d_M_delete_22 : decode b_M_delete 22 = .ok (.iload_n 2, 1) := by decide +kernel
theorem d_M_delete_23 : decode b_M_delete 23 = .ok (.iconst 0, 1) := by decide +kernel
theorem d_M_delete_24 : decode b_M_delete 24 = .ok (.invokevirtual 242, 3) := by decide +kernel
theorem d_M_delete_27 : decode b_M_delete 27 = .ok (.ireturn, 1) := by decide +kernel
theorem d_M_scan_0 : decode b_M_scan 0 = .ok (.aload_n 0, 1) := by decide +kernel
theorem d_M_scan_1 : decode b_M_scan 1 = .ok (.iload_n 1, 1) := by decide +kernel
theorem d_M_scan_2 : decode b_M_scan 2 = .ok (.invokevirtual 162, 3) := by decide +kernel
theorem d_M_scan_5 : decode b_M_scan 5 = .ok (.ifCond .eq 22, 3) := by decide +kernel
theorem d_M_scan_8 : decode b_M_scan 8 = .ok (.iload_n 2, 1) := by decide +kernel
theorem d_M_scan_9 : decode b_M_scan 9 = .ok (.invokestatic 239, 3) := by decide +kernel
theorem d_M_scan_12 : decode b_M_scan 12 = .ok (.ifCond .eq 15, 3) := by decide +kernel
theorem d_M_scan_15 : decode b_M_scan 15 = .ok (.iload_n 3, 1) := by decide +kernel
theorem d_M_scan_16 : decode b_M_scan 16 = .ok (.invokestatic 239, 3) := by decide +kernel
theorem d_M_scan_19 : decode b_M_scan 19 = .ok (.ifCond .eq 8, 3) := by decide +kernel
theorem d_M_scan_22 : decode b_M_scan 22 = .ok (.iload_n 2, 1) := by decide +kernel
theorem d_M_scan_23 : decode b_M_scan 23 = .ok (.iload_n 3, 1) := by decide +kernel
theorem d_M_scan_24 : decode b_M_scan 24 = .ok (.if_icmp .le 7, 3) := by decide +kernel
theorem d_M_scan_27 : decode b_M_scan 27 = .ok (.iconst (-1), 1) := by decide +kernel
theorem d_M_scan_28 : decode b_M_scan 28 = .ok (.goto 11, 3) := by decide +kernel
theorem d_M_scan_31 : decode b_M_scan 31 = .ok (.aload_n 0, 1) := by decide +kernel
theorem d_M_scan_32 : decode b_M_scan 32 = .ok (.iload_n 1, 1) := by decide +kernel
theorem d_M_scan_33 : decode b_M_scan 33 = .ok (.iconst 4, 1) := by decide +kernel
theorem d_M_scan_34 : decode b_M_scan 34 = .ok (.iload_n 2, 1) := by decide +kernel
theorem d_M_scan_35 : decode b_M_scan 35 = .ok (.iload_n 3, 1) := by decide +kernel
theorem d_M_scan_36 : decode b_M_scan 36 = .ok (.invokevirtual 242, 3) := by decide +kernel
theorem d_M_scan_39 : decode b_M_scan 39 = .ok (.ireturn, 1) := by decide +kernel
theorem d_M_resume_0 : decode b_M_resume 0 = .ok (.aload_n 0, 1) := by decide +kernel
theorem d_M_resume_1 : decode b_M_resume 1 = .ok (.iload_n 1, 1) := by decide +kernel
theorem d_M_resume_2 : decode b_M_resume 2 = .ok (.invokevirtual 159, 3) := by decide +kernel
theorem d_M_resume_5 : decode b_M_resume 5 = .ok (.ifCond .eq 13, 3) := by decide +kernel
theorem d_M_resume_8 : decode b_M_resume 8 = .ok (.aload_n 0, 1) := by decide +kernel
theorem d_M_resume_9 : decode b_M_resume 9 = .ok (.getfield 62, 3) := by decide +kernel
theorem d_M_resume_12 : decode b_M_resume 12 = .ok (.iload_n 1, 1) := by decide +kernel
theorem d_M_resume_13 : decode b_M_resume 13 = .ok (.iaload, 1) := by decide +kernel
theorem d_M_resume_14 : decode b_M_resume 14 = .ok (.iconst 2, 1) := by decide +kernel
theorem d_M_resume_15 : decode b_M_resume 15 = .ok (.if_icmp .eq 7, 3) := by decide +kernel
theorem d_M_resume_18 : decode b_M_resume 18 = .ok (.iconst (-1), 1) := by decide +kernel
theorem d_M_resume_19 : decode b_M_resume 19 = .ok (.goto 26, 3) := by decide +kernel
theorem d_M_resume_22 : decode b_M_resume 22 = .ok (.aload_n 0, 1) := by decide +kernel
theorem d_M_resume_23 : decode b_M_resume 23 = .ok (.iload_n 1, 1) := by decide +kernel
theorem d_M_resume_24 : decode b_M_resume 24 = .ok (.aload_n 0, 1) := by decide +kernel
theorem d_M_resume_25 : decode b_M_resume 25 = .ok (.getfield 74, 3) := by decide +kernel
theorem d_M_resume_28 : decode b_M_resume 28 = .ok (.iload_n 1, 1) := by decide +kernel
theorem d_M_resume_29 : decode b_M_resume 29 = .ok (.iaload, 1) := by decide +kernel
theorem d_M_resume_30 : decode b_M_resume 30 = .ok (.aload_n 0, 1) := by decide +kernel
theorem d_M_resume_31 : decode b_M_resume 31 = .ok (.getfield 77, 3) := by decide +kernel
theorem d_M_resume_34 : decode b_M_resume 34 = .ok (.iload_n 1, 1) := by decide +kernel
theorem d_M_resume_35 : decode b_M_resume 35 = .ok (.iaload, 1) := by decide +kernel
theorem d_M_resume_36 : decode b_M_resume 36 = .ok (.aload_n 0, 1) := by decide +kernel
theorem d_M_resume_37 : decode b_M_resume 37 = .ok (.getfield 80, 3) := by decide +kernel
theorem d_M_resume_40 : decode b_M_resume 40 = .ok (.iload_n 1, 1) := by decide +kernel
theorem d_M_resume_41 : decode b_M_resume 41 = .ok (.iaload, 1) := by decide +kernel
theorem d_M_resume_42 : decode b_M_resume 42 = .ok (.invokevirtual 236, 3) := by decide +kernel
theorem d_M_resume_45 : decode b_M_resume 45 = .ok (.ireturn, 1) := by decide +kernel
theorem d_M_value_0 : decode b_M_value 0 = .ok (.aload_n 0, 1) := by decide +kernel
theorem d_M_value_1 : decode b_M_value 1 = .ok (.getfield 216, 3) := by decide +kernel
theorem d_M_value_4 : decode b_M_value 4 = .ok (.ireturn, 1) := by decide +kernel
theorem d_M_unlock_0 : decode b_M_unlock 0 = .ok (.iconst 0, 1) := by decide +kernel
theorem d_M_unlock_1 : decode b_M_unlock 1 = .ok (.istore_n 2, 1) := by decide +kernel
theorem d_M_unlock_2 : decode b_M_unlock 2 = .ok (.iload_n 2, 1) := by decide +kernel
theorem d_M_unlock_3 : decode b_M_unlock 3 = .ok (.bipush 33, 2) := by decide +kernel
theorem d_M_unlock_5 : decode b_M_unlock 5 = .ok (.if_icmp .ge 21, 3) := by decide +kernel
theorem d_M_unlock_8 : decode b_M_unlock 8 = .ok (.aload_n 0, 1) := by decide +kernel
theorem d_M_unlock_9 : decode b_M_unlock 9 = .ok (.getfield 71, 3) := by decide +kernel
theorem d_M_unlock_12 : decode b_M_unlock 12 = .ok (.bipush 33, 2) := by decide +kernel
theorem d_M_unlock_14 : decode b_M_unlock 14 = .ok (.iload_n 1, 1) := by decide +kernel
theorem d_M_unlock_15 : decode b_M_unlock 15 = .ok (.imul, 1) := by decide +kernel
theorem d_M_unlock_16 : decode b_M_unlock 16 = .ok (.iload_n 2, 1) := by decide +kernel
theorem d_M_unlock_17 : decode b_M_unlock 17 = .ok (.iadd, 1) := by decide +kernel
theorem d_M_unlock_18 : decode b_M_unlock 18 = .ok (.iconst 0, 1) := by decide +kernel
theorem d_M_unlock_19 : decode b_M_unlock 19 = .ok (.iastore, 1) := by decide +kernel
theorem d_M_unlock_20 : decode b_M_unlock 20 = .ok (.iinc 2 1, 3) := by decide +kernel
theorem d_M_unlock_23 : decode b_M_unlock 23 = .ok (.goto (-21), 3) := by decide +kernel
theorem d_M_unlock_26 : decode b_M_unlock 26 = .ok (.return_, 1) := by decide +kernel
theorem d_M_commit_0 : decode b_M_commit 0 = .ok (.aload_n 0, 1) := by decide +kernel
theorem d_M_commit_1 : decode b_M_commit 1 = .ok (.iload_n 1, 1) := by decide +kernel
theorem d_M_commit_2 : decode b_M_commit 2 = .ok (.invokevirtual 162, 3) := by decide +kernel
theorem d_M_commit_5 : decode b_M_commit 5 = .ok (.ifCond .ne 5, 3) := by decide +kernel
theorem d_M_commit_8 : decode b_M_commit 8 = .ok (.iconst (-1), 1) := by decide +kernel
theorem d_M_commit_9 : decode b_M_commit 9 = .ok (.ireturn, 1) := by decide +kernel
theorem d_M_commit_10 : decode b_M_commit 10 = .ok (.aload_n 0, 1) := by decide +kernel
theorem d_M_commit_11 : decode b_M_commit 11 = .ok (.iload_n 1, 1) := by decide +kernel
theorem d_M_commit_12 : decode b_M_commit 12 = .ok (.invokevirtual 233, 3) := by decide +kernel
theorem d_M_commit_15 : decode b_M_commit 15 = .ok (.ifCond .eq 6, 3) := by decide +kernel
theorem d_M_commit_18 : decode b_M_commit 18 = .ok (.bipush (-4), 2) := by decide +kernel
theorem d_M_commit_20 : decode b_M_commit 20 = .ok (.ireturn, 1) := by decide +kernel
theorem d_M_commit_21 : decode b_M_commit 21 = .ok (.aload_n 0, 1) := by decide +kernel
theorem d_M_commit_22 : decode b_M_commit 22 = .ok (.iconst 4, 1) := by decide +kernel
theorem d_M_commit_23 : decode b_M_commit 23 = .ok (.iload_n 1, 1) := by decide +kernel
theorem d_M_commit_24 : decode b_M_commit 24 = .ok (.iconst 0, 1) := by decide +kernel
theorem d_M_commit_25 : decode b_M_commit 25 = .ok (.invokevirtual 121, 3) := by decide +kernel
theorem d_M_commit_28 : decode b_M_commit 28 = .ok (.istore_n 2, 1) := by decide +kernel
theorem d_M_commit_29 : decode b_M_commit 29 = .ok (.aload_n 0, 1) := by decide +kernel
theorem d_M_commit_30 : decode b_M_commit 30 = .ok (.getfield 62, 3) := by decide +kernel
theorem d_M_commit_33 : decode b_M_commit 33 = .ok (.aload_n 0, 1) := by decide +kernel
theorem d_M_commit_34 : decode b_M_commit 34 = .ok (.getfield 41, 3) := by decide +kernel
theorem d_M_commit_37 : decode b_M_commit 37 = .ok (.iload_n 2, 1) := by decide +kernel
theorem d_M_commit_38 : decode b_M_commit 38 = .ok (.iaload, 1) := by decide +kernel
theorem d_M_commit_39 : decode b_M_commit 39 = .ok (.iconst 3, 1) := by decide +kernel
theorem d_M_commit_40 : decode b_M_commit 40 = .ok (.iastore, 1) := by decide +kernel
theorem d_M_commit_41 : decode b_M_commit 41 = .ok (.aload_n 0, 1) := by decide +kernel
theorem d_M_commit_42 : decode b_M_commit 42 = .ok (.getfield 65, 3) := by decide +kernel
theorem d_M_commit_45 : decode b_M_commit 45 = .ok (.iload_n 1, 1) := by decide +kernel
theorem d_M_commit_46 : decode b_M_commit 46 = .ok (.iaload, 1) := by decide +kernel
theorem d_M_commit_47 : decode b_M_commit 47 = .ok (.istore_n 3, 1) := by decide +kernel
theorem d_M_commit_48 : decode b_M_commit 48 = .ok (.iconst 0, 1) := by decide +kernel
theorem d_M_commit_49 : decode b_M_commit 49 = .ok (.istore 4, 2) := by decide +kernel
theorem d_M_commit_51 : decode b_M_commit 51 = .ok (.iload 4, 2) := by decide +kernel
theorem d_M_commit_53 : decode b_M_commit 53 = .ok (.bipush 33, 2) := by decide +kernel
theorem d_M_commit_55 : decode b_M_commit 55 = .ok (.if_icmp .ge 73, 3) := by decide +kernel
theorem d_M_commit_58 : decode b_M_commit 58 = .ok (.iload_n 3, 1) := by decide +kernel
theorem d_M_commit_59 : decode b_M_commit 59 = .ok (.ifCond .lt 69, 3) := by decide +kernel
theorem d_M_commit_62 : decode b_M_commit 62 = .ok (.aload_n 0, 1) := by decide +kernel
theorem d_M_commit_63 : decode b_M_commit 63 = .ok (.getfield 71, 3) := by decide +kernel
theorem d_M_commit_66 : decode b_M_commit 66 = .ok (.bipush 33, 2) := by decide +kernel
theorem d_M_commit_68 : decode b_M_commit 68 = .ok (.iload_n 1, 1) := by decide +kernel
theorem d_M_commit_69 : decode b_M_commit 69 = .ok (.imul, 1) := by decide +kernel
theorem d_M_commit_70 : decode b_M_commit 70 = .ok (.iload 4, 2) := by decide +kernel
theorem d_M_commit_72 : decode b_M_commit 72 = .ok (.iadd, 1) := by decide +kernel
theorem d_M_commit_73 : decode b_M_commit 73 = .ok (.iaload, 1) := by decide +kernel
theorem d_M_commit_74 : decode b_M_commit 74 = .ok (.istore 5, 2) := by decide +kernel
theorem d_M_commit_76 : decode b_M_commit 76 = .ok (.aload_n 0, 1) := by decide +kernel
theorem d_M_commit_77 : decode b_M_commit 77 = .ok (.getfield 71, 3) := by decide +kernel
theorem d_M_commit_80 : decode b_M_commit 80 = .ok (.bipush 33, 2) := by decide +kernel
theorem d_M_commit_82 : decode b_M_commit 82 = .ok (.iload_n 3, 1) := by decide +kernel
theorem d_M_commit_83 : decode b_M_commit 83 = .ok (.imul, 1) := by decide +kernel
theorem d_M_commit_84 : decode b_M_commit 84 = .ok (.iload 4, 2) := by decide +kernel
theorem d_M_commit_86 : decode b_M_commit 86 = .ok (.iadd, 1) := by decide +kernel
theorem d_M_commit_87 : decode b_M_commit 87 = .ok (.iload 5, 2) := by decide +kernel
theorem d_M_commit_89 : decode b_M_commit 89 = .ok (.aload_n 0, 1) := by decide +kernel
theorem d_M_commit_90 : decode b_M_commit 90 = .ok (.getfield 71, 3) := by decide +kernel
theorem d_M_commit_93 : decode b_M_commit 93 = .ok (.bipush 33, 2) := by decide +kernel
theorem d_M_commit_95 : decode b_M_commit 95 = .ok (.iload_n 3, 1) := by decide +kernel
theorem d_M_commit_96 : decode b_M_commit 96 = .ok (.imul, 1) := by decide +kernel
theorem d_M_commit_97 : decode b_M_commit 97 = .ok (.iload 4, 2) := by decide +kernel
theorem d_M_commit_99 : decode b_M_commit 99 = .ok (.iadd, 1) := by decide +kernel
theorem d_M_commit_100 : decode b_M_commit 100 = .ok (.iaload, 1) := by decide +kernel
theorem d_M_commit_101 : decode b_M_commit 101 = .ok (.if_icmp .le 8, 3) := by decide +kernel
theorem d_M_commit_104 : decode b_M_commit 104 = .ok (.iload 5, 2) := by decide +kernel
theorem d_M_commit_106 : decode b_M_commit 106 = .ok (.goto 15, 3) := by decide +kernel
theorem d_M_commit_109 : decode b_M_commit 109 = .ok (.aload_n 0, 1) := by decide +kernel
theorem d_M_commit_110 : decode b_M_commit 110 = .ok (.getfield 71, 3) := by decide +kernel
theorem d_M_commit_113 : decode b_M_commit 113 = .ok (.bipush 33, 2) := by decide +kernel
theorem d_M_commit_115 : decode b_M_commit 115 = .ok (.iload_n 3, 1) := by decide +kernel
theorem d_M_commit_116 : decode b_M_commit 116 = .ok (.imul, 1) := by decide +kernel
theorem d_M_commit_117 : decode b_M_commit 117 = .ok (.iload 4, 2) := by decide +kernel
theorem d_M_commit_119 : decode b_M_commit 119 = .ok (.iadd, 1) := by decide +kernel
theorem d_M_commit_120 : decode b_M_commit 120 = .ok (.iaload, 1) := by decide +kernel
theorem d_M_commit_121 : decode b_M_commit 121 = .ok (.iastore, 1) := by decide +kernel
theorem d_M_commit_122 : decode b_M_commit 122 = .ok (.iinc 4 1, 3) := by decide +kernel
theorem d_M_commit_125 : decode b_M_commit 125 = .ok (.goto (-74), 3) := by decide +kernel
theorem d_M_commit_128 : decode b_M_commit 128 = .ok (.aload_n 0, 1) := by decide +kernel
theorem d_M_commit_129 : decode b_M_commit 129 = .ok (.iload_n 3, 1) := by decide +kernel
theorem d_M_commit_130 : decode b_M_commit 130 = .ok (.ifCond .ge 10, 3) := by decide +kernel
theorem d_M_commit_133 : decode b_M_commit 133 = .ok (.aload_n 0, 1) := by decide +kernel
theorem d_M_commit_134 : decode b_M_commit 134 = .ok (.invokevirtual 128, 3) := by decide +kernel
theorem d_M_commit_137 : decode b_M_commit 137 = .ok (.goto 7, 3) := by decide +kernel
theorem d_M_commit_140 : decode b_M_commit 140 = .ok (.aload_n 0, 1) := by decide +kernel
theorem d_M_commit_141 : decode b_M_commit 141 = .ok (.getfield 105, 3) := by decide +kernel
theorem d_M_commit_144 : decode b_M_commit 144 = .ok (.putfield 105, 3) := by decide +kernel
theorem d_M_commit_147 : decode b_M_commit 147 = .ok (.aload_n 0, 1) := by decide +kernel
theorem d_M_commit_148 : decode b_M_commit 148 = .ok (.iload_n 1, 1) := by decide +kernel
theorem d_M_commit_149 : decode b_M_commit 149 = .ok (.invokevirtual 245, 3) := by decide +kernel
theorem d_M_commit_152 : decode b_M_commit 152 = .ok (.iconst 0, 1) := by decide +kernel
theorem d_M_commit_153 : decode b_M_commit 153 = .ok (.ireturn, 1) := by decide +kernel
theorem d_M_undoes_0 : decode b_M_undoes 0 = .ok (.iconst 0, 1) := by decide +kernel
theorem d_M_undoes_1 : decode b_M_undoes 1 = .ok (.istore_n 3, 1) := by decide +kernel
theorem d_M_undoes_2 : decode b_M_undoes 2 = .ok (.aload_n 0, 1) := by decide +kernel
theorem d_M_undoes_3 : decode b_M_undoes 3 = .ok (.getfield 118, 3) := by decide +kernel
theorem d_M_undoes_6 : decode b_M_undoes 6 = .ok (.iconst 1, 1) := by decide +kernel
theorem d_M_undoes_7 : decode b_M_undoes 7 = .ok (.isub, 1) := by decide +kernel
theorem d_M_undoes_8 : decode b_M_undoes 8 = .ok (.istore 4, 2) := by decide +kernel
theorem d_M_undoes_10 : decode b_M_undoes 10 = .ok (.iload 4, 2) := by decide +kernel
theorem d_M_undoes_12 : decode b_M_undoes 12 = .ok (.ifCond .lt 67, 3) := by decide +kernel
theorem d_M_undoes_15 : decode b_M_undoes 15 = .ok (.aload_n 0, 1) := by decide +kernel
theorem d_M_undoes_16 : decode b_M_undoes 16 = .ok (.getfield 115, 3) := by decide +kernel
theorem d_M_undoes_19 : decode b_M_undoes 19 = .ok (.iload 4, 2) := by decide +kernel
theorem d_M_undoes_21 : decode b_M_undoes 21 = .ok (.iadd, 1) := by decide +kernel
theorem d_M_undoes_22 : decode b_M_undoes 22 = .ok (.iconst 1, 1) := by decide +kernel
theorem d_M_undoes_23 : decode b_M_undoes 23 = .ok (.iadd, 1) := by decide +kernel
theorem d_M_undoes_24 : decode b_M_undoes 24 = .ok (.iload_n 2, 1) := by decide +kernel
theorem d_M_undoes_25 : decode b_M_undoes 25 = .ok (.if_icmp .le 48, 3) := by decide +kernel
theorem d_M_undoes_28 : decode b_M_undoes 28 = .ok (.aload_n 0, 1) := by decide +kernel
theorem d_M_undoes_29 : decode b_M_undoes 29 = .ok (.iload 4, 2) := by decide +kernel
theorem d_M_undoes_31 : decode b_M_undoes 31 = .ok (.invokevirtual 144, 3) := by decide +kernel
theorem d_M_undoes_34 : decode b_M_undoes 34 = .ok (.ifCond .eq 39, 3) := by decide +kernel
theorem d_M_undoes_37 : decode b_M_undoes 37 = .ok (.aload_n 0, 1) := by decide +kernel
theorem d_M_undoes_38 : decode b_M_undoes 38 = .ok (.getfield 41, 3) := by decide +kernel
theorem d_M_undoes_41 : decode b_M_undoes 41 = .ok (.iload 4, 2) := by decide +kernel
theorem d_M_undoes_43 : decode b_M_undoes 43 = .ok (.iaload, 1) := by decide +kernel
theorem d_M_undoes_44 : decode b_M_undoes 44 = .ok (.iload_n 1, 1) := by decide +kernel
theorem d_M_undoes_45 : decode b_M_undoes 45 = .ok (.if_icmp .eq 18, 3) := by decide +kernel
theorem d_M_undoes_48 : decode b_M_undoes 48 = .ok (.aload_n 0, 1) := by decide +kernel
theorem d_M_undoes_49 : decode b_M_undoes 49 = .ok (.iload_n 1, 1) := by decide +kernel
theorem d_M_undoes_50 : decode b_M_undoes 50 = .ok (.aload_n 0, 1) := by decide +kernel
theorem d_M_undoes_51 : decode b_M_undoes 51 = .ok (.getfield 41, 3) := by decide +kernel
theorem d_M_undoes_54 : decode b_M_undoes 54 = .ok (.iload 4, 2) := by decide +kernel
theorem d_M_undoes_56 : decode b_M_undoes 56 = .ok (.iaload, 1) := by decide +kernel
theorem d_M_undoes_57 : decode b_M_undoes 57 = .ok (.invokevirtual 187, 3) := by decide +kernel
theorem d_M_undoes_60 : decode b_M_undoes 60 = .ok (.ifCond .eq 13, 3) := by decide +kernel
theorem d_M_undoes_63 : decode b_M_undoes 63 = .ok (.aload_n 0, 1) := by decide +kernel
theorem d_M_undoes_64 : decode b_M_undoes 64 = .ok (.iload_n 1, 1) := by decide +kernel
theorem d_M_undoes_65 : decode b_M_undoes 65 = .ok (.iload 4, 2) := by decide +kernel
theorem d_M_undoes_67 : decode b_M_undoes 67 = .ok (.invokevirtual 248, 3) := by decide +kernel
theorem d_M_undoes_70 : decode b_M_undoes 70 = .ok (.iinc 3 1, 3) := by decide +kernel
theorem d_M_undoes_73 : decode b_M_undoes 73 = .ok (.iinc 4 (-1), 3) := by decide +kernel
theorem d_M_undoes_76 : decode b_M_undoes 76 = .ok (.goto (-66), 3) := by decide +kernel
theorem d_M_undoes_79 : decode b_M_undoes 79 = .ok (.iload_n 3, 1) := by decide +kernel
theorem d_M_undoes_80 : decode b_M_undoes 80 = .ok (.ireturn, 1) := by decide +kernel
theorem d_M_aborts_0 : decode b_M_aborts 0 = .ok (.iconst 0, 1) := by decide +kernel
theorem d_M_aborts_1 : decode b_M_aborts 1 = .ok (.istore_n 2, 1) := by decide +kernel
theorem d_M_aborts_2 : decode b_M_aborts 2 = .ok (.iload_n 2, 1) := by decide +kernel
theorem d_M_aborts_3 : decode b_M_aborts 3 = .ok (.aload_n 0, 1) := by decide +kernel
theorem d_M_aborts_4 : decode b_M_aborts 4 = .ok (.getfield 147, 3) := by decide +kernel
theorem d_M_aborts_7 : decode b_M_aborts 7 = .ok (.if_icmp .ge 42, 3) := by decide +kernel
theorem d_M_aborts_10 : decode b_M_aborts 10 = .ok (.aload_n 0, 1) := by decide +kernel
theorem d_M_aborts_11 : decode b_M_aborts 11 = .ok (.getfield 98, 3) := by decide +kernel
theorem d_M_aborts_14 : decode b_M_aborts 14 = .ok (.iload_n 2, 1) := by decide +kernel
theorem d_M_aborts_15 : decode b_M_aborts 15 = .ok (.aload_n 0, 1) := by decide +kernel
theorem d_M_aborts_16 : decode b_M_aborts 16 = .ok (.iload_n 2, 1) := by decide +kernel
theorem d_M_aborts_17 : decode b_M_aborts 17 = .ok (.invokevirtual 150, 3) := by decide +kernel
theorem d_M_aborts_20 : decode b_M_aborts 20 = .ok (.ifCond .eq 21, 3) := by decide +kernel
theorem d_M_aborts_23 : decode b_M_aborts 23 = .ok (.iload_n 2, 1) := by decide +kernel
theorem d_M_aborts_24 : decode b_M_aborts 24 = .ok (.iload_n 1, 1) := by decide +kernel
theorem d_M_aborts_25 : decode b_M_aborts 25 = .ok (.if_icmp .eq 12, 3) := by decide +kernel
theorem d_M_aborts_28 : decode b_M_aborts 28 = .ok (.aload_n 0, 1) := by decide +kernel
theorem d_M_aborts_29 : decode b_M_aborts 29 = .ok (.iload_n 1, 1) := by decide +kernel
theorem d_M_aborts_30 : decode b_M_aborts 30 = .ok (.iload_n 2, 1) := by decide +kernel
theorem d_M_aborts_31 : decode b_M_aborts 31 = .ok (.invokevirtual 187, 3) := by decide +kernel
theorem d_M_aborts_34 : decode b_M_aborts 34 = .ok (.ifCond .eq 7, 3) := by decide +kernel
theorem d_M_aborts_37 : decode b_M_aborts 37 = .ok (.iconst 1, 1) := by decide +kernel
theorem d_M_aborts_38 : decode b_M_aborts 38 = .ok (.goto 4, 3) := by decide +kernel
theorem d_M_aborts_41 : decode b_M_aborts 41 = .ok (.iconst 0, 1) := by decide +kernel
theorem d_M_aborts_42 : decode b_M_aborts 42 = .ok (.bastore, 1) := by decide +kernel
theorem d_M_aborts_43 : decode b_M_aborts 43 = .ok (.iinc 2 1, 3) := by decide +kernel
theorem d_M_aborts_46 : decode b_M_aborts 46 = .ok (.goto (-44), 3) := by decide +kernel
theorem d_M_aborts_49 : decode b_M_aborts 49 = .ok (.aload_n 0, 1) := by decide +kernel
theorem d_M_aborts_50 : decode b_M_aborts 50 = .ok (.iload_n 1, 1) := by decide +kernel
theorem d_M_aborts_51 : decode b_M_aborts 51 = .ok (.iconst 0, 1) := by decide +kernel
theorem d_M_aborts_52 : decode b_M_aborts 52 = .ok (.invokevirtual 252, 3) := by decide +kernel
theorem d_M_aborts_55 : decode b_M_aborts 55 = .ok (.istore_n 2, 1) := by decide +kernel
theorem d_M_aborts_56 : decode b_M_aborts 56 = .ok (.aload_n 0, 1) := by decide +kernel
theorem d_M_aborts_57 : decode b_M_aborts 57 = .ok (.getfield 147, 3) := by decide +kernel
theorem d_M_aborts_60 : decode b_M_aborts 60 = .ok (.iconst 1, 1) := by decide +kernel
theorem d_M_aborts_61 : decode b_M_aborts 61 = .ok (.isub, 1) := by decide +kernel
theorem d_M_aborts_62 : decode b_M_aborts 62 = .ok (.istore_n 3, 1) := by decide +kernel
theorem d_M_aborts_63 : decode b_M_aborts 63 = .ok (.iload_n 3, 1) := by decide +kernel
theorem d_M_aborts_64 : decode b_M_aborts 64 = .ok (.ifCond .lt 45, 3) := by decide +kernel
theorem d_M_aborts_67 : decode b_M_aborts 67 = .ok (.aload_n 0, 1) := by decide +kernel
theorem d_M_aborts_68 : decode b_M_aborts 68 = .ok (.getfield 98, 3) := by decide +kernel
theorem d_M_aborts_71 : decode b_M_aborts 71 = .ok (.iload_n 3, 1) := by decide +kernel
theorem d_M_aborts_72 : decode b_M_aborts 72 = .ok (.baload, 1) := by decide +kernel
theorem d_M_aborts_73 : decode b_M_aborts 73 = .ok (.ifCond .eq 30, 3) := by decide +kernel
theorem d_M_aborts_76 : decode b_M_aborts 76 = .ok (.aload_n 0, 1) := by decide +kernel
theorem d_M_aborts_77 : decode b_M_aborts 77 = .ok (.iconst 5, 1) := by decide +kernel
theorem d_M_aborts_78 : decode b_M_aborts 78 = .ok (.iload_n 3, 1) := by decide +kernel
theorem d_M_aborts_79 : decode b_M_aborts 79 = .ok (.iconst 0, 1) := by decide +kernel
theorem d_M_aborts_80 : decode b_M_aborts 80 = .ok (.invokevirtual 121, 3) := by decide +kernel
theorem d_M_aborts_83 : decode b_M_aborts 83 = .ok (.istore 4, 2) := by decide +kernel
theorem d_M_aborts_85 : decode b_M_aborts 85 = .ok (.aload_n 0, 1) := by decide +kernel
theorem d_M_aborts_86 : decode b_M_aborts 86 = .ok (.getfield 62, 3) := by decide +kernel
theorem d_M_aborts_89 : decode b_M_aborts 89 = .ok (.aload_n 0, 1) := by decide +kernel
theorem d_M_aborts_90 : decode b_M_aborts 90 = .ok (.getfield 41, 3) := by decide +kernel
theorem d_M_aborts_93 : decode b_M_aborts 93 = .ok (.iload 4, 2) := by decide +kernel
theorem d_M_aborts_95 : decode b_M_aborts 95 = .ok (.iaload, 1) := by decide +kernel
theorem d_M_aborts_96 : decode b_M_aborts 96 = .ok (.iconst 4, 1) := by decide +kernel
theorem d_M_aborts_97 : decode b_M_aborts 97 = .ok (.iastore, 1) := by decide +kernel
theorem d_M_aborts_98 : decode b_M_aborts 98 = .ok (.aload_n 0, 1) := by decide +kernel
theorem d_M_aborts_99 : decode b_M_aborts 99 = .ok (.iload_n 3, 1) := by decide +kernel
theorem d_M_aborts_100 : decode b_M_aborts 100 = .ok (.invokevirtual 245, 3) := by decide +kernel
theorem d_M_aborts_103 : decode b_M_aborts 103 = .ok (.iinc 3 (-1), 3) := by decide +kernel
theorem d_M_aborts_106 : decode b_M_aborts 106 = .ok (.goto (-43), 3) := by decide +kernel
theorem d_M_aborts_109 : decode b_M_aborts 109 = .ok (.iload_n 2, 1) := by decide +kernel
theorem d_M_aborts_110 : decode b_M_aborts 110 = .ok (.ireturn, 1) := by decide +kernel
theorem d_M_abort_0 : decode b_M_abort 0 = .ok (.aload_n 0, 1) := by decide +kernel
theorem d_M_abort_1 : decode b_M_abort 1 = .ok (.iload_n 1, 1) := by decide +kernel
theorem d_M_abort_2 : decode b_M_abort 2 = .ok (.invokevirtual 159, 3) := by decide +kernel
theorem d_M_abort_5 : decode b_M_abort 5 = .ok (.ifCond .eq 11, 3) := by decide +kernel
theorem d_M_abort_8 : decode b_M_abort 8 = .ok (.aload_n 0, 1) := by decide +kernel
theorem d_M_abort_9 : decode b_M_abort 9 = .ok (.iload_n 1, 1) := by decide +kernel
theorem d_M_abort_10 : decode b_M_abort 10 = .ok (.invokevirtual 150, 3) := by decide +kernel
theorem d_M_abort_13 : decode b_M_abort 13 = .ok (.ifCond .ne 7, 3) := by decide +kernel
theorem d_M_abort_16 : decode b_M_abort 16 = .ok (.iconst (-1), 1) := by decide +kernel
theorem d_M_abort_17 : decode b_M_abort 17 = .ok (.goto 8, 3) := by decide +kernel
theorem d_M_abort_20 : decode b_M_abort 20 = .ok (.aload_n 0, 1) := by decide +kernel
theorem d_M_abort_21 : decode b_M_abort 21 = .ok (.iload_n 1, 1) := by decide +kernel
theorem d_M_abort_22 : decode b_M_abort 22 = .ok (.invokevirtual 230, 3) := by decide +kernel
theorem d_M_abort_25 : decode b_M_abort 25 = .ok (.ireturn, 1) := by decide +kernel
theorem d_M_save_0 : decode b_M_save 0 = .ok (.aload_n 0, 1) := by decide +kernel
theorem d_M_save_1 : decode b_M_save 1 = .ok (.iload_n 1, 1) := by decide +kernel
theorem d_M_save_2 : decode b_M_save 2 = .ok (.invokevirtual 162, 3) := by decide +kernel
theorem d_M_save_5 : decode b_M_save 5 = .ok (.ifCond .ne 7, 3) := by decide +kernel
theorem d_M_save_8 : decode b_M_save 8 = .ok (.iconst (-1), 1) := by decide +kernel
theorem d_M_save_9 : decode b_M_save 9 = .ok (.goto 20, 3) := by decide +kernel
theorem d_M_save_12 : decode b_M_save 12 = .ok (.aload_n 0, 1) := by decide +kernel
theorem d_M_save_13 : decode b_M_save 13 = .ok (.iload_n 1, 1) := by decide +kernel
theorem d_M_save_14 : decode b_M_save 14 = .ok (.invokevirtual 233, 3) := by decide +kernel
theorem d_M_save_17 : decode b_M_save 17 = .ok (.ifCond .eq 8, 3) := by decide +kernel
theorem d_M_save_20 : decode b_M_save 20 = .ok (.bipush (-4), 2) := by decide +kernel
theorem d_M_save_22 : decode b_M_save 22 = .ok (.goto 7, 3) := by decide +kernel
theorem d_M_save_25 : decode b_M_save 25 = .ok (.aload_n 0, 1) := by decide +kernel
theorem d_M_save_26 : decode b_M_save 26 = .ok (.invokevirtual 128, 3) := by decide +kernel
theorem d_M_save_29 : decode b_M_save 29 = .ok (.ireturn, 1) := by decide +kernel
theorem d_M_rollback_0 : decode b_M_rollback 0 = .ok (.aload_n 0, 1) := by decide +kernel
theorem d_M_rollback_1 : decode b_M_rollback 1 = .ok (.iload_n 1, 1) := by decide +kernel
theorem d_M_rollback_2 : decode b_M_rollback 2 = .ok (.invokevirtual 162, 3) := by decide +kernel
theorem d_M_rollback_5 : decode b_M_rollback 5 = .ok (.ifCond .eq 21, 3) := by decide +kernel
theorem d_M_rollback_8 : decode b_M_rollback 8 = .ok (.iload_n 2, 1) := by decide +kernel
theorem d_M_rollback_9 : decode b_M_rollback 9 = .ok (.aload_n 0, 1) := by decide +kernel
theorem d_M_rollback_10 : decode b_M_rollback 10 = .ok (.getfield 68, 3) := by decide +kernel
theorem d_M_rollback_13 : decode b_M_rollback 13 = .ok (.iload_n 1, 1) := by decide +kernel
theorem d_M_rollback_14 : decode b_M_rollback 14 = .ok (.iaload, 1) := by decide +kernel
theorem d_M_rollback_15 : decode b_M_rollback 15 = .ok (.if_icmp .lt 11, 3) := by decide +kernel
theorem d_M_rollback_18 : decode b_M_rollback 18 = .ok (.iload_n 2, 1) := by decide +kernel
theorem d_M_rollback_19 : decode b_M_rollback 19 = .ok (.aload_n 0, 1) := by decide +kernel
theorem d_M_rollback_20 : decode b_M_rollback 20 = .ok (.invokevirtual 128, 3) := by decide +kernel
theorem d_M_rollback_23 : decode b_M_rollback 23 = .ok (.if_icmp .le 5, 3) := by decide +kernel
theorem d_M_rollback_26 : decode b_M_rollback 26 = .ok (.iconst (-1), 1) := by decide +kernel
theorem d_M_rollback_27 : decode b_M_rollback 27 = .ok (.ireturn, 1) := by decide +kernel
theorem d_M_rollback_28 : decode b_M_rollback 28 = .ok (.aload_n 0, 1) := by decide +kernel
theorem d_M_rollback_29 : decode b_M_rollback 29 = .ok (.iload_n 1, 1) := by decide +kernel
theorem d_M_rollback_30 : decode b_M_rollback 30 = .ok (.invokevirtual 233, 3) := by decide +kernel
theorem d_M_rollback_33 : decode b_M_rollback 33 = .ok (.ifCond .eq 8, 3) := by decide +kernel
theorem d_M_rollback_36 : decode b_M_rollback 36 = .ok (.bipush (-4), 2) := by decide +kernel
theorem d_M_rollback_38 : decode b_M_rollback 38 = .ok (.goto 9, 3) := by decide +kernel
theorem d_M_rollback_41 : decode b_M_rollback 41 = .ok (.aload_n 0, 1) := by decide +kernel
theorem d_M_rollback_42 : decode b_M_rollback 42 = .ok (.iload_n 1, 1) := by decide +kernel
theorem d_M_rollback_43 : decode b_M_rollback 43 = .ok (.iload_n 2, 1) := by decide +kernel
theorem d_M_rollback_44 : decode b_M_rollback 44 = .ok (.invokevirtual 252, 3) := by decide +kernel
theorem d_M_rollback_47 : decode b_M_rollback 47 = .ok (.ireturn, 1) := by decide +kernel
theorem d_M_write_0 : decode b_M_write 0 = .ok (.iload_n 1, 1) := by decide +kernel
theorem d_M_write_1 : decode b_M_write 1 = .ok (.invokestatic 255, 3) := by decide +kernel
theorem d_M_write_4 : decode b_M_write 4 = .ok (.ifCond .eq 21, 3) := by decide +kernel
theorem d_M_write_7 : decode b_M_write 7 = .ok (.aload_n 0, 1) := by decide +kernel
theorem d_M_write_8 : decode b_M_write 8 = .ok (.getfield 29, 3) := by decide +kernel
theorem d_M_write_11 : decode b_M_write 11 = .ok (.iload_n 1, 1) := by decide +kernel
theorem d_M_write_12 : decode b_M_write 12 = .ok (.baload, 1) := by decide +kernel
theorem d_M_write_13 : decode b_M_write 13 = .ok (.ifCond .eq 12, 3) := by decide +kernel
theorem d_M_write_16 : decode b_M_write 16 = .ok (.aload_n 0, 1) := by decide +kernel
theorem d_M_write_17 : decode b_M_write 17 = .ok (.getfield 32, 3) := by decide +kernel
theorem d_M_write_20 : decode b_M_write 20 = .ok (.iload_n 1, 1) := by decide +kernel
theorem d_M_write_21 : decode b_M_write 21 = .ok (.baload, 1) := by decide +kernel
theorem d_M_write_22 : decode b_M_write 22 = .ok (.ifCond .ne 5, 3) := by decide +kernel
theorem d_M_write_25 : decode b_M_write 25 = .ok (.iconst 0, 1) := by decide +kernel
theorem d_M_write_26 : decode b_M_write 26 = .ok (.ireturn, 1) := by decide +kernel
theorem d_M_write_27 : decode b_M_write 27 = .ok (.aload_n 0, 1) := by decide +kernel
theorem d_M_write_28 : decode b_M_write 28 = .ok (.iload_n 1, 1) := by decide +kernel
theorem d_M_write_29 : decode b_M_write 29 = .ok (.invokevirtual 111, 3) := by decide +kernel
theorem d_M_write_32 : decode b_M_write 32 = .ok (.iconst 1, 1) := by decide +kernel
theorem d_M_write_33 : decode b_M_write 33 = .ok (.ireturn, 1) := by decide +kernel
theorem d_M_archive_0 : decode b_M_archive 0 = .ok (.aload_n 0, 1) := by decide +kernel
theorem d_M_archive_1 : decode b_M_archive 1 = .ok (.invokevirtual 156, 3) := by decide +kernel
theorem d_M_archive_4 : decode b_M_archive 4 = .ok (.ifCond .le 5, 3) := by decide +kernel
theorem d_M_archive_7 : decode b_M_archive 7 = .ok (.iconst (-1), 1) := by decide +kernel
theorem d_M_archive_8 : decode b_M_archive 8 = .ok (.ireturn, 1) := by decide +kernel
theorem d_M_archive_9 : decode b_M_archive 9 = .ok (.iconst 0, 1) := by decide +kernel
theorem d_M_archive_10 : decode b_M_archive 10 = .ok (.istore_n 1, 1) := by decide +kernel
theorem d_M_archive_11 : decode b_M_archive 11 = .ok (.iconst 0, 1) := by decide +kernel
theorem d_M_archive_12 : decode b_M_archive 12 = .ok (.istore_n 2, 1) := by decide +kernel
theorem d_M_archive_13 : decode b_M_archive 13 = .ok (.iload_n 2, 1) := by decide +kernel
theorem d_M_archive_14 : decode b_M_archive 14 = .ok (.bipush 8, 2) := by decide +kernel
theorem d_M_archive_16 : decode b_M_archive 16 = .ok (.if_icmp .ge 25, 3) := by decide +kernel
theorem d_M_archive_19 : decode b_M_archive 19 = .ok (.iload_n 1, 1) := by decide +kernel
theorem d_M_archive_20 : decode b_M_archive 20 = .ok (.aload_n 0, 1) := by decide +kernel
theorem d_M_archive_21 : decode b_M_archive 21 = .ok (.iload_n 2, 1) := by decide +kernel
theorem d_M_archive_22 : decode b_M_archive 22 = .ok (.invokevirtual 258, 3) := by decide +kernel
theorem d_M_archive_25 : decode b_M_archive 25 = .ok (.ifCond .eq 7, 3) := by decide +kernel
theorem d_M_archive_28 : decode b_M_archive 28 = .ok (.iconst 1, 1) := by decide +kernel
theorem d_M_archive_29 : decode b_M_archive 29 = .ok (.goto 4, 3) := by decide +kernel
theorem d_M_archive_32 : decode b_M_archive 32 = .ok (.iconst 0, 1) := by decide +kernel
theorem d_M_archive_33 : decode b_M_archive 33 = .ok (.iadd, 1) := by decide +kernel
theorem d_M_archive_34 : decode b_M_archive 34 = .ok (.istore_n 1, 1) := by decide +kernel
theorem d_M_archive_35 : decode b_M_archive 35 = .ok (.iinc 2 1, 3) := by decide +kernel
theorem d_M_archive_38 : decode b_M_archive 38 = .ok (.goto (-25), 3) := by decide +kernel
theorem d_M_archive_41 : decode b_M_archive 41 = .ok (.aload_n 0, 1) := by decide +kernel
theorem d_M_archive_42 : decode b_M_archive 42 = .ok (.aload_n 0, 1) := by decide +kernel
theorem d_M_archive_43 : decode b_M_archive 43 = .ok (.invokevirtual 128, 3) := by decide +kernel
theorem d_M_archive_46 : decode b_M_archive 46 = .ok (.putfield 115, 3) := by decide +kernel
theorem d_M_archive_49 : decode b_M_archive 49 = .ok (.aload_n 0, 1) := by decide +kernel
theorem d_M_archive_50 : decode b_M_archive 50 = .ok (.iconst 0, 1) := by decide +kernel
theorem d_M_archive_51 : decode b_M_archive 51 = .ok (.putfield 118, 3) := by decide +kernel
theorem d_M_archive_54 : decode b_M_archive 54 = .ok (.aload_n 0, 1) := by decide +kernel
theorem d_M_archive_55 : decode b_M_archive 55 = .ok (.aload_n 0, 1) := by decide +kernel
theorem d_M_archive_56 : decode b_M_archive 56 = .ok (.getfield 115, 3) := by decide +kernel
theorem d_M_archive_59 : decode b_M_archive 59 = .ok (.putfield 105, 3) := by decide +kernel
theorem d_M_archive_62 : decode b_M_archive 62 = .ok (.iload_n 1, 1) := by decide +kernel
theorem d_M_archive_63 : decode b_M_archive 63 = .ok (.ireturn, 1) := by decide +kernel
theorem d_M_committed_0 : decode b_M_committed 0 = .ok (.iconst 0, 1) := by decide +kernel
theorem d_M_committed_1 : decode b_M_committed 1 = .ok (.istore_n 2, 1) := by decide +kernel
theorem d_M_committed_2 : decode b_M_committed 2 = .ok (.iconst 0, 1) := by decide +kernel
theorem d_M_committed_3 : decode b_M_committed 3 = .ok (.istore_n 3, 1) := by decide +kernel
theorem d_M_committed_4 : decode b_M_committed 4 = .ok (.iload_n 3, 1) := by decide +kernel
theorem d_M_committed_5 : decode b_M_committed 5 = .ok (.aload_n 0, 1) := by decide +kernel
theorem d_M_committed_6 : decode b_M_committed 6 = .ok (.getfield 118, 3) := by decide +kernel
theorem d_M_committed_9 : decode b_M_committed 9 = .ok (.if_icmp .ge 39, 3) := by decide +kernel
theorem d_M_committed_12 : decode b_M_committed 12 = .ok (.iload_n 2, 1) := by decide +kernel
theorem d_M_committed_13 : decode b_M_committed 13 = .ok (.ifCond .ne 23, 3) := by decide +kernel
theorem d_M_committed_16 : decode b_M_committed 16 = .ok (.aload_n 0, 1) := by decide +kernel
theorem d_M_committed_17 : decode b_M_committed 17 = .ok (.getfield 38, 3) := by decide +kernel
theorem d_M_committed_20 : decode b_M_committed 20 = .ok (.iload_n 3, 1) := by decide +kernel
theorem d_M_committed_21 : decode b_M_committed 21 = .ok (.iaload, 1) := by decide +kernel
theorem d_M_committed_22 : decode b_M_committed 22 = .ok (.iconst 4, 1) := by decide +kernel
theorem d_M_committed_23 : decode b_M_committed 23 = .ok (.if_icmp .ne 17, 3) := by decide +kernel
theorem d_M_committed_26 : decode b_M_committed 26 = .ok (.aload_n 0, 1) := by decide +kernel
theorem d_M_committed_27 : decode b_M_committed 27 = .ok (.getfield 41, 3) := by decide +kernel
theorem d_M_committed_30 : decode b_M_committed 30 = .ok (.iload_n 3, 1) := by decide +kernel
theorem d_M_committed_31 : decode b_M_committed 31 = .ok (.iaload, 1) := by decide +kernel
theorem d_M_committed_32 : decode b_M_committed 32 = .ok (.iload_n 1, 1) := by decide +kernel
theorem d_M_committed_33 : decode b_M_committed 33 = .ok (.if_icmp .ne 7, 3) := by decide +kernel
theorem d_M_committed_36 : decode b_M_committed 36 = .ok (.iconst 1, 1) := by decide +kernel
theorem d_M_committed_37 : decode b_M_committed 37 = .ok (.goto 4, 3) := by decide +kernel
theorem d_M_committed_40 : decode b_M_committed 40 = .ok (.iconst 0, 1) := by decide +kernel
theorem d_M_committed_41 : decode b_M_committed 41 = .ok (.istore_n 2, 1) := by decide +kernel
theorem d_M_committed_42 : decode b_M_committed 42 = .ok (.iinc 3 1, 3) := by decide +kernel
theorem d_M_committed_45 : decode b_M_committed 45 = .ok (.goto (-41), 3) := by decide +kernel
theorem d_M_committed_48 : decode b_M_committed 48 = .ok (.iload_n 2, 1) := by decide +kernel
theorem d_M_committed_49 : decode b_M_committed 49 = .ok (.ireturn, 1) := by decide +kernel
theorem d_M_crash_0 : decode b_M_crash 0 = .ok (.iload_n 1, 1) := by decide +kernel
theorem d_M_crash_1 : decode b_M_crash 1 = .ok (.ifCond .lt 16, 3) := by decide +kernel
theorem d_M_crash_4 : decode b_M_crash 4 = .ok (.iload_n 1, 1) := by decide +kernel
theorem d_M_crash_5 : decode b_M_crash 5 = .ok (.aload_n 0, 1) := by decide +kernel
theorem d_M_crash_6 : decode b_M_crash 6 = .ok (.invokevirtual 128, 3) := by decide +kernel
theorem d_M_crash_9 : decode b_M_crash 9 = .ok (.aload_n 0, 1) := by decide +kernel
theorem d_M_crash_10 : decode b_M_crash 10 = .ok (.getfield 105, 3) := by decide +kernel
theorem d_M_crash_13 : decode b_M_crash 13 = .ok (.isub, 1) := by decide +kernel
theorem d_M_crash_14 : decode b_M_crash 14 = .ok (.if_icmp .le 5, 3) := by decide +kernel
theorem d_M_crash_17 : decode b_M_crash 17 = .ok (.iconst (-1), 1) := by decide +kernel
theorem d_M_crash_18 : decode b_M_crash 18 = .ok (.ireturn, 1) := by decide +kernel
theorem d_M_crash_19 : decode b_M_crash 19 = .ok (.aload_n 0, 1) := by decide +kernel
theorem d_M_crash_20 : decode b_M_crash 20 = .ok (.dup, 1) := by decide +kernel
theorem d_M_crash_21 : decode b_M_crash 21 = .ok (.getfield 105, 3) := by decide +kernel
theorem d_M_crash_24 : decode b_M_crash 24 = .ok (.iload_n 1, 1) := by decide +kernel
theorem d_M_crash_25 : decode b_M_crash 25 = .ok (.iadd, 1) := by decide +kernel
theorem d_M_crash_26 : decode b_M_crash 26 = .ok (.putfield 105, 3) := by decide +kernel
theorem d_M_crash_29 : decode b_M_crash 29 = .ok (.aload_n 0, 1) := by decide +kernel
theorem d_M_crash_30 : decode b_M_crash 30 = .ok (.aload_n 0, 1) := by decide +kernel
theorem d_M_crash_31 : decode b_M_crash 31 = .ok (.getfield 105, 3) := by decide +kernel
theorem d_M_crash_34 : decode b_M_crash 34 = .ok (.aload_n 0, 1) := by decide +kernel
theorem d_M_crash_35 : decode b_M_crash 35 = .ok (.getfield 115, 3) := by decide +kernel
theorem d_M_crash_38 : decode b_M_crash 38 = .ok (.isub, 1) := by decide +kernel
theorem d_M_crash_39 : decode b_M_crash 39 = .ok (.putfield 118, 3) := by decide +kernel
theorem d_M_crash_42 : decode b_M_crash 42 = .ok (.iconst 0, 1) := by decide +kernel
theorem d_M_crash_43 : decode b_M_crash 43 = .ok (.istore_n 2, 1) := by decide +kernel
theorem d_M_crash_44 : decode b_M_crash 44 = .ok (.iload_n 2, 1) := by decide +kernel
theorem d_M_crash_45 : decode b_M_crash 45 = .ok (.bipush 8, 2) := by decide +kernel
theorem d_M_crash_47 : decode b_M_crash 47 = .ok (.if_icmp .ge 23, 3) := by decide +kernel
theorem d_M_crash_50 : decode b_M_crash 50 = .ok (.aload_n 0, 1) := by decide +kernel
theorem d_M_crash_51 : decode b_M_crash 51 = .ok (.getfield 29, 3) := by decide +kernel
theorem d_M_crash_54 : decode b_M_crash 54 = .ok (.iload_n 2, 1) := by decide +kernel
theorem d_M_crash_55 : decode b_M_crash 55 = .ok (.iconst 0, 1) := by decide +kernel
theorem d_M_crash_56 : decode b_M_crash 56 = .ok (.bastore, 1) := by decide +kernel
