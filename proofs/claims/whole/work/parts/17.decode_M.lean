theorem d_M_init_0 : decode b_M_init 0 = .ok (.aload_n 0, 1) := by decide +kernel
theorem d_M_init_1 : decode b_M_init 1 = .ok (.invokespecial 1, 3) := by decide +kernel
theorem d_M_init_4 : decode b_M_init 4 = .ok (.aload_n 0, 1) := by decide +kernel
theorem d_M_init_5 : decode b_M_init 5 = .ok (.bipush 32, 2) := by decide +kernel
theorem d_M_init_7 : decode b_M_init 7 = .ok (.newarray .boolean, 2) := by decide +kernel
theorem d_M_init_9 : decode b_M_init 9 = .ok (.putfield 7, 3) := by decide +kernel
theorem d_M_init_12 : decode b_M_init 12 = .ok (.aload_n 0, 1) := by decide +kernel
theorem d_M_init_13 : decode b_M_init 13 = .ok (.bipush 32, 2) := by decide +kernel
theorem d_M_init_15 : decode b_M_init 15 = .ok (.newarray .int, 2) := by decide +kernel
theorem d_M_init_17 : decode b_M_init 17 = .ok (.putfield 13, 3) := by decide +kernel
theorem d_M_init_20 : decode b_M_init 20 = .ok (.aload_n 0, 1) := by decide +kernel
theorem d_M_init_21 : decode b_M_init 21 = .ok (.bipush 8, 2) := by decide +kernel
theorem d_M_init_23 : decode b_M_init 23 = .ok (.newarray .int, 2) := by decide +kernel
theorem d_M_init_25 : decode b_M_init 25 = .ok (.putfield 17, 3) := by decide +kernel
theorem d_M_init_28 : decode b_M_init 28 = .ok (.aload_n 0, 1) := by decide +kernel
theorem d_M_init_29 : decode b_M_init 29 = .ok (.bipush 32, 2) := by decide +kernel
theorem d_M_init_31 : decode b_M_init 31 = .ok (.newarray .boolean, 2) := by decide +kernel
theorem d_M_init_33 : decode b_M_init 33 = .ok (.putfield 20, 3) := by decide +kernel
theorem d_M_init_36 : decode b_M_init 36 = .ok (.aload_n 0, 1) := by decide +kernel
theorem d_M_init_37 : decode b_M_init 37 = .ok (.bipush 32, 2) := by decide +kernel
theorem d_M_init_39 : decode b_M_init 39 = .ok (.newarray .int, 2) := by decide +kernel
theorem d_M_init_41 : decode b_M_init 41 = .ok (.putfield 23, 3) := by decide +kernel
theorem d_M_init_44 : decode b_M_init 44 = .ok (.aload_n 0, 1) := by decide +kernel
theorem d_M_init_45 : decode b_M_init 45 = .ok (.bipush 8, 2) := by decide +kernel
theorem d_M_init_47 : decode b_M_init 47 = .ok (.newarray .int, 2) := by decide +kernel
theorem d_M_init_49 : decode b_M_init 49 = .ok (.putfield 26, 3) := by decide +kernel
theorem d_M_init_52 : decode b_M_init 52 = .ok (.aload_n 0, 1) := by decide +kernel
theorem d_M_init_53 : decode b_M_init 53 = .ok (.bipush 8, 2) := by decide +kernel
theorem d_M_init_55 : decode b_M_init 55 = .ok (.newarray .boolean, 2) := by decide +kernel
theorem d_M_init_57 : decode b_M_init 57 = .ok (.putfield 29, 3) := by decide +kernel
theorem d_M_init_60 : decode b_M_init 60 = .ok (.aload_n 0, 1) := by decide +kernel
theorem d_M_init_61 : decode b_M_init 61 = .ok (.bipush 8, 2) := by decide +kernel
theorem d_M_init_63 : decode b_M_init 63 = .ok (.newarray .boolean, 2) := by decide +kernel
theorem d_M_init_65 : decode b_M_init 65 = .ok (.putfield 32, 3) := by decide +kernel
theorem d_M_init_68 : decode b_M_init 68 = .ok (.aload_n 0, 1) := by decide +kernel
theorem d_M_init_69 : decode b_M_init 69 = .ok (.bipush 8, 2) := by decide +kernel
theorem d_M_init_71 : decode b_M_init 71 = .ok (.newarray .int, 2) := by decide +kernel
theorem d_M_init_73 : decode b_M_init 73 = .ok (.putfield 35, 3) := by decide +kernel
theorem d_M_init_76 : decode b_M_init 76 = .ok (.aload_n 0, 1) := by decide +kernel
theorem d_M_init_77 : decode b_M_init 77 = .ok (.sipush 301, 3) := by decide +kernel
theorem d_M_init_80 : decode b_M_init 80 = .ok (.newarray .int, 2) := by decide +kernel
theorem d_M_init_82 : decode b_M_init 82 = .ok (.putfield 38, 3) := by decide +kernel
theorem d_M_init_85 : decode b_M_init 85 = .ok (.aload_n 0, 1) := by decide +kernel
theorem d_M_init_86 : decode b_M_init 86 = .ok (.sipush 301, 3) := by decide +kernel
theorem d_M_init_89 : decode b_M_init 89 = .ok (.newarray .int, 2) := by decide +kernel
theorem d_M_init_91 : decode b_M_init 91 = .ok (.putfield 41, 3) := by decide +kernel
theorem d_M_init_94 : decode b_M_init 94 = .ok (.aload_n 0, 1) := by decide +kernel
theorem d_M_init_95 : decode b_M_init 95 = .ok (.sipush 301, 3) := by decide +kernel
theorem d_M_init_98 : decode b_M_init 98 = .ok (.newarray .int, 2) := by decide +kernel
theorem d_M_init_100 : decode b_M_init 100 = .ok (.putfield 44, 3) := by decide +kernel
theorem d_M_init_103 : decode b_M_init 103 = .ok (.aload_n 0, 1) := by decide +kernel
theorem d_M_init_104 : decode b_M_init 104 = .ok (.sipush 301, 3) := by decide +kernel
theorem d_M_init_107 : decode b_M_init 107 = .ok (.newarray .int, 2) := by decide +kernel
theorem d_M_init_109 : decode b_M_init 109 = .ok (.putfield 47, 3) := by decide +kernel
theorem d_M_init_112 : decode b_M_init 112 = .ok (.aload_n 0, 1) := by decide +kernel
theorem d_M_init_113 : decode b_M_init 113 = .ok (.sipush 301, 3) := by decide +kernel
theorem d_M_init_116 : decode b_M_init 116 = .ok (.newarray .boolean, 2) := by decide +kernel
theorem d_M_init_118 : decode b_M_init 118 = .ok (.putfield 50, 3) := by decide +kernel
theorem d_M_init_121 : decode b_M_init 121 = .ok (.aload_n 0, 1) := by decide +kernel
theorem d_M_init_122 : decode b_M_init 122 = .ok (.sipush 301, 3) := by decide +kernel
theorem d_M_init_125 : decode b_M_init 125 = .ok (.newarray .int, 2) := by decide +kernel
theorem d_M_init_127 : decode b_M_init 127 = .ok (.putfield 53, 3) := by decide +kernel
theorem d_M_init_130 : decode b_M_init 130 = .ok (.aload_n 0, 1) := by decide +kernel
theorem d_M_init_131 : decode b_M_init 131 = .ok (.sipush 301, 3) := by decide +kernel
theorem d_M_init_134 : decode b_M_init 134 = .ok (.newarray .boolean, 2) := by decide +kernel
theorem d_M_init_136 : decode b_M_init 136 = .ok (.putfield 56, 3) := by decide +kernel
theorem d_M_init_139 : decode b_M_init 139 = .ok (.aload_n 0, 1) := by decide +kernel
theorem d_M_init_140 : decode b_M_init 140 = .ok (.sipush 301, 3) := by decide +kernel
theorem d_M_init_143 : decode b_M_init 143 = .ok (.newarray .int, 2) := by decide +kernel
theorem d_M_init_145 : decode b_M_init 145 = .ok (.putfield 59, 3) := by decide +kernel
theorem d_M_init_148 : decode b_M_init 148 = .ok (.aload_n 0, 1) := by decide +kernel
theorem d_M_init_149 : decode b_M_init 149 = .ok (.bipush 60, 2) := by decide +kernel
theorem d_M_init_151 : decode b_M_init 151 = .ok (.newarray .int, 2) := by decide +kernel
theorem d_M_init_153 : decode b_M_init 153 = .ok (.putfield 62, 3) := by decide +kernel
theorem d_M_init_156 : decode b_M_init 156 = .ok (.aload_n 0, 1) := by decide +kernel
theorem d_M_init_157 : decode b_M_init 157 = .ok (.bipush 60, 2) := by decide +kernel
theorem d_M_init_159 : decode b_M_init 159 = .ok (.newarray .int, 2) := by decide +kernel
theorem d_M_init_161 : decode b_M_init 161 = .ok (.putfield 65, 3) := by decide +kernel
theorem d_M_init_164 : decode b_M_init 164 = .ok (.aload_n 0, 1) := by decide +kernel
theorem d_M_init_165 : decode b_M_init 165 = .ok (.bipush 60, 2) := by decide +kernel
theorem d_M_init_167 : decode b_M_init 167 = .ok (.newarray .int, 2) := by decide +kernel
theorem d_M_init_169 : decode b_M_init 169 = .ok (.putfield 68, 3) := by decide +kernel
theorem d_M_init_172 : decode b_M_init 172 = .ok (.aload_n 0, 1) := by decide +kernel
theorem d_M_init_173 : decode b_M_init 173 = .ok (.sipush 1980, 3) := by decide +kernel
theorem d_M_init_176 : decode b_M_init 176 = .ok (.newarray .int, 2) := by decide +kernel
theorem d_M_init_178 : decode b_M_init 178 = .ok (.putfield 71, 3) := by decide +kernel
theorem d_M_init_181 : decode b_M_init 181 = .ok (.aload_n 0, 1) := by decide +kernel
theorem d_M_init_182 : decode b_M_init 182 = .ok (.bipush 60, 2) := by decide +kernel
theorem d_M_init_184 : decode b_M_init 184 = .ok (.newarray .int, 2) := by decide +kernel
theorem d_M_init_186 : decode b_M_init 186 = .ok (.putfield 74, 3) := by decide +kernel
theorem d_M_init_189 : decode b_M_init 189 = .ok (.aload_n 0, 1) := by decide +kernel
theorem d_M_init_190 : decode b_M_init 190 = .ok (.bipush 60, 2) := by decide +kernel
theorem d_M_init_192 : decode b_M_init 192 = .ok (.newarray .int, 2) := by decide +kernel
theorem d_M_init_194 : decode b_M_init 194 = .ok (.putfield 77, 3) := by decide +kernel
theorem d_M_init_197 : decode b_M_init 197 = .ok (.aload_n 0, 1) := by decide +kernel
theorem d_M_init_198 : decode b_M_init 198 = .ok (.bipush 60, 2) := by decide +kernel
theorem d_M_init_200 : decode b_M_init 200 = .ok (.newarray .int, 2) := by decide +kernel
theorem d_M_init_202 : decode b_M_init 202 = .ok (.putfield 80, 3) := by decide +kernel
theorem d_M_init_205 : decode b_M_init 205 = .ok (.aload_n 0, 1) := by decide +kernel
theorem d_M_init_206 : decode b_M_init 206 = .ok (.bipush 33, 2) := by decide +kernel
theorem d_M_init_208 : decode b_M_init 208 = .ok (.newarray .int, 2) := by decide +kernel
theorem d_M_init_210 : decode b_M_init 210 = .ok (.putfield 83, 3) := by decide +kernel
theorem d_M_init_213 : decode b_M_init 213 = .ok (.aload_n 0, 1) := by decide +kernel
theorem d_M_init_214 : decode b_M_init 214 = .ok (.bipush 60, 2) := by decide +kernel
theorem d_M_init_216 : decode b_M_init 216 = .ok (.newarray .int, 2) := by decide +kernel
theorem d_M_init_218 : decode b_M_init 218 = .ok (.putfield 86, 3) := by decide +kernel
theorem d_M_init_221 : decode b_M_init 221 = .ok (.aload_n 0, 1) := by decide +kernel
theorem d_M_init_222 : decode b_M_init 222 = .ok (.bipush 60, 2) := by decide +kernel
theorem d_M_init_224 : decode b_M_init 224 = .ok (.newarray .int, 2) := by decide +kernel
theorem d_M_init_226 : decode b_M_init 226 = .ok (.putfield 89, 3) := by decide +kernel
theorem d_M_init_229 : decode b_M_init 229 = .ok (.aload_n 0, 1) := by decide +kernel
theorem d_M_init_230 : decode b_M_init 230 = .ok (.bipush 60, 2) := by decide +kernel
theorem d_M_init_232 : decode b_M_init 232 = .ok (.newarray .boolean, 2) := by decide +kernel
theorem d_M_init_234 : decode b_M_init 234 = .ok (.putfield 92, 3) := by decide +kernel
theorem d_M_init_237 : decode b_M_init 237 = .ok (.aload_n 0, 1) := by decide +kernel
theorem d_M_init_238 : decode b_M_init 238 = .ok (.bipush 60, 2) := by decide +kernel
theorem d_M_init_240 : decode b_M_init 240 = .ok (.newarray .boolean, 2) := by decide +kernel
theorem d_M_init_242 : decode b_M_init 242 = .ok (.putfield 95, 3) := by decide +kernel
theorem d_M_init_245 : decode b_M_init 245 = .ok (.aload_n 0, 1) := by decide +kernel
theorem d_M_init_246 : decode b_M_init 246 = .ok (.bipush 60, 2) := by decide +kernel
theorem d_M_init_248 : decode b_M_init 248 = .ok (.newarray .boolean, 2) := by decide +kernel
theorem d_M_init_250 : decode b_M_init 250 = .ok (.putfield 98, 3) := by decide +kernel
theorem d_M_init_253 : decode b_M_init 253 = .ok (.aload_n 0, 1) := by decide +kernel
theorem d_M_init_254 : decode b_M_init 254 = .ok (.iload_n 1, 1) := by decide +kernel
theorem d_M_init_255 : decode b_M_init 255 = .ok (.iconst 1, 1) := by decide +kernel
theorem d_M_init_256 : decode b_M_init 256 = .ok (.if_icmp .ge 7, 3) := by decide +kernel
theorem d_M_init_259 : decode b_M_init 259 = .ok (.iconst 1, 1) := by decide +kernel
theorem d_M_init_260 : decode b_M_init 260 = .ok (.goto 15, 3) := by decide +kernel
theorem d_M_init_263 : decode b_M_init 263 = .ok (.iload_n 1, 1) := by decide +kernel
theorem d_M_init_264 : decode b_M_init 264 = .ok (.bipush 8, 2) := by decide +kernel
theorem d_M_init_266 : decode b_M_init 266 = .ok (.if_icmp .le 8, 3) := by decide +kernel
theorem d_M_init_269 : decode b_M_init 269 = .ok (.bipush 8, 2) := by decide +kernel
theorem d_M_init_271 : decode b_M_init 271 = .ok (.goto 4, 3) := by decide +kernel
theorem d_M_init_274 : decode b_M_init 274 = .ok (.iload_n 1, 1) := by decide +kernel
theorem d_M_init_275 : decode b_M_init 275 = .ok (.putfield 101, 3) := by decide +kernel
theorem d_M_init_278 : decode b_M_init 278 = .ok (.return_, 1) := by decide +kernel
theorem d_M_isKey_0 : decode b_M_isKey 0 = .ok (.iload_n 0, 1) := by decide +kernel
theorem d_M_isKey_1 : decode b_M_isKey 1 = .ok (.ifCond .lt 13, 3) := by decide +kernel
theorem d_M_isKey_4 : decode b_M_isKey 4 = .ok (.iload_n 0, 1) := by decide +kernel
theorem d_M_isKey_5 : decode b_M_isKey 5 = .ok (.bipush 31, 2) := by decide +kernel
theorem d_M_isKey_7 : decode b_M_isKey 7 = .ok (.if_icmp .gt 7, 3) := by decide +kernel
theorem d_M_isKey_10 : decode b_M_isKey 10 = .ok (.iconst 1, 1) := by decide +kernel
theorem d_M_isKey_11 : decode b_M_isKey 11 = .ok (.goto 4, 3) := by decide +kernel
theorem d_M_isKey_14 : decode b_M_isKey 14 = .ok (.iconst 0, 1) := by decide +kernel
theorem d_M_isKey_15 : decode b_M_isKey 15 = .ok (.ireturn, 1) := by decide +kernel
theorem d_M_isPage_0 : decode b_M_isPage 0 = .ok (.iload_n 0, 1) := by decide +kernel
theorem d_M_isPage_1 : decode b_M_isPage 1 = .ok (.ifCond .lt 13, 3) := by decide +kernel
theorem d_M_isPage_4 : decode b_M_isPage 4 = .ok (.iload_n 0, 1) := by decide +kernel
theorem d_M_isPage_5 : decode b_M_isPage 5 = .ok (.bipush 7, 2) := by decide +kernel
theorem d_M_isPage_7 : decode b_M_isPage 7 = .ok (.if_icmp .gt 7, 3) := by decide +kernel
theorem d_M_isPage_10 : decode b_M_isPage 10 = .ok (.iconst 1, 1) := by decide +kernel
theorem d_M_isPage_11 : decode b_M_isPage 11 = .ok (.goto 4, 3) := by decide +kernel
theorem d_M_isPage_14 : decode b_M_isPage 14 = .ok (.iconst 0, 1) := by decide +kernel
theorem d_M_isPage_15 : decode b_M_isPage 15 = .ok (.ireturn, 1) := by decide +kernel
theorem d_M_isThereNow_0 : decode b_M_isThereNow 0 = .ok (.aload_n 0, 1) := by decide +kernel
theorem d_M_isThereNow_1 : decode b_M_isThereNow 1 = .ok (.getfield 29, 3) := by decide +kernel
theorem d_M_isThereNow_4 : decode b_M_isThereNow 4 = .ok (.iload_n 1, 1) := by decide +kernel
theorem d_M_isThereNow_5 : decode b_M_isThereNow 5 = .ok (.iconst 4, 1) := by decide +kernel
theorem d_M_isThereNow_6 : decode b_M_isThereNow 6 = .ok (.idiv, 1) := by decide +kernel
theorem d_M_isThereNow_7 : decode b_M_isThereNow 7 = .ok (.baload, 1) := by decide +kernel
theorem d_M_isThereNow_8 : decode b_M_isThereNow 8 = .ok (.ifCond .eq 12, 3) := by decide +kernel
theorem d_M_isThereNow_11 : decode b_M_isThereNow 11 = .ok (.aload_n 0, 1) := by decide +kernel
theorem d_M_isThereNow_12 : decode b_M_isThereNow 12 = .ok (.getfield 20, 3) := by decide +kernel
theorem d_M_isThereNow_15 : decode b_M_isThereNow 15 = .ok (.iload_n 1, 1) := by decide +kernel
theorem d_M_isThereNow_16 : decode b_M_isThereNow 16 = .ok (.baload, 1) := by decide +kernel
theorem d_M_isThereNow_17 : decode b_M_isThereNow 17 = .ok (.goto 9, 3) := by decide +kernel
theorem d_M_isThereNow_20 : decode b_M_isThereNow 20 = .ok (.aload_n 0, 1) := by decide +kernel
theorem d_M_isThereNow_21 : decode b_M_isThereNow 21 = .ok (.getfield 7, 3) := by decide +kernel
theorem d_M_isThereNow_24 : decode b_M_isThereNow 24 = .ok (.iload_n 1, 1) := by decide +kernel
theorem d_M_isThereNow_25 : decode b_M_isThereNow 25 = .ok (.baload, 1) := by decide +kernel
theorem d_M_isThereNow_26 : decode b_M_isThereNow 26 = .ok (.ireturn, 1) := by decide +kernel
theorem d_M_valueNow_0 : decode b_M_valueNow 0 = .ok (.aload_n 0, 1) := by decide +kernel
theorem d_M_valueNow_1 : decode b_M_valueNow 1 = .ok (.getfield 29, 3) := by decide +kernel
theorem d_M_valueNow_4 : decode b_M_valueNow 4 = .ok (.iload_n 1, 1) := by decide +kernel
theorem d_M_valueNow_5 : decode b_M_valueNow 5 = .ok (.iconst 4, 1) := by decide +kernel
theorem d_M_valueNow_6 : decode b_M_valueNow 6 = .ok (.idiv, 1) := by decide +kernel
theorem d_M_valueNow_7 : decode b_M_valueNow 7 = .ok (.baload, 1) := by decide +kernel
theorem d_M_valueNow_8 : decode b_M_valueNow 8 = .ok (.ifCond .eq 12, 3) := by decide +kernel
theorem d_M_valueNow_11 : decode b_M_valueNow 11 = .ok (.aload_n 0, 1) := by decide +kernel
theorem d_M_valueNow_12 : decode b_M_valueNow 12 = .ok (.getfield 23, 3) := by decide +kernel
theorem d_M_valueNow_15 : decode b_M_valueNow 15 = .ok (.iload_n 1, 1) := by decide +kernel
theorem d_M_valueNow_16 : decode b_M_valueNow 16 = .ok (.iaload, 1) := by decide +kernel
theorem d_M_valueNow_17 : decode b_M_valueNow 17 = .ok (.goto 9, 3) := by decide +kernel
theorem d_M_valueNow_20 : decode b_M_valueNow 20 = .ok (.aload_n 0, 1) := by decide +kernel
theorem d_M_valueNow_21 : decode b_M_valueNow 21 = .ok (.getfield 13, 3) := by decide +kernel
theorem d_M_valueNow_24 : decode b_M_valueNow 24 = .ok (.iload_n 1, 1) := by decide +kernel
theorem d_M_valueNow_25 : decode b_M_valueNow 25 = .ok (.iaload, 1) := by decide +kernel
theorem d_M_valueNow_26 : decode b_M_valueNow 26 = .ok (.ireturn, 1) := by decide +kernel
theorem d_M_lsnNow_0 : decode b_M_lsnNow 0 = .ok (.aload_n 0, 1) := by decide +kernel
theorem d_M_lsnNow_1 : decode b_M_lsnNow 1 = .ok (.getfield 29, 3) := by decide +kernel
theorem d_M_lsnNow_4 : decode b_M_lsnNow 4 = .ok (.iload_n 1, 1) := by decide +kernel
theorem d_M_lsnNow_5 : decode b_M_lsnNow 5 = .ok (.baload, 1) := by decide +kernel
theorem d_M_lsnNow_6 : decode b_M_lsnNow 6 = .ok (.ifCond .eq 12, 3) := by decide +kernel
theorem d_M_lsnNow_9 : decode b_M_lsnNow 9 = .ok (.aload_n 0, 1) := by decide +kernel
theorem d_M_lsnNow_10 : decode b_M_lsnNow 10 = .ok (.getfield 26, 3) := by decide +kernel
theorem d_M_lsnNow_13 : decode b_M_lsnNow 13 = .ok (.iload_n 1, 1) := by decide +kernel
theorem d_M_lsnNow_14 : decode b_M_lsnNow 14 = .ok (.iaload, 1) := by decide +kernel
theorem d_M_lsnNow_15 : decode b_M_lsnNow 15 = .ok (.goto 9, 3) := by decide +kernel
theorem d_M_lsnNow_18 : decode b_M_lsnNow 18 = .ok (.aload_n 0, 1) := by decide +kernel
theorem d_M_lsnNow_19 : decode b_M_lsnNow 19 = .ok (.getfield 17, 3) := by decide +kernel
theorem d_M_lsnNow_22 : decode b_M_lsnNow 22 = .ok (.iload_n 1, 1) := by decide +kernel
theorem d_M_lsnNow_23 : decode b_M_lsnNow 23 = .ok (.iaload, 1) := by decide +kernel
theorem d_M_lsnNow_24 : decode b_M_lsnNow 24 = .ok (.ireturn, 1) := by decide +kernel
theorem d_M_writes_0 : decode b_M_writes 0 = .ok (.aload_n 0, 1) := by decide +kernel
theorem d_M_writes_1 : decode b_M_writes 1 = .ok (.aload_n 0, 1) := by decide +kernel
theorem d_M_writes_2 : decode b_M_writes 2 = .ok (.getfield 26, 3) := by decide +kernel
theorem d_M_writes_5 : decode b_M_writes 5 = .ok (.iload_n 1, 1) := by decide +kernel
theorem d_M_writes_6 : decode b_M_writes 6 = .ok (.iaload, 1) := by decide +kernel
theorem d_M_writes_7 : decode b_M_writes 7 = .ok (.aload_n 0, 1) := by decide +kernel
theorem d_M_writes_8 : decode b_M_writes 8 = .ok (.getfield 105, 3) := by decide +kernel
theorem d_M_writes_11 : decode b_M_writes 11 = .ok (.if_icmp .le 12, 3) := by decide +kernel
theorem d_M_writes_14 : decode b_M_writes 14 = .ok (.aload_n 0, 1) := by decide +kernel
theorem d_M_writes_15 : decode b_M_writes 15 = .ok (.getfield 26, 3) := by decide +kernel
theorem d_M_writes_18 : decode b_M_writes 18 = .ok (.iload_n 1, 1) := by decide +kernel
theorem d_M_writes_19 : decode b_M_writes 19 = .ok (.iaload, 1) := by decide +kernel
theorem d_M_writes_20 : decode b_M_writes 20 = .ok (.goto 7, 3) := by decide +kernel
theorem d_M_writes_23 : decode b_M_writes 23 = .ok (.aload_n 0, 1) := by decide +kernel
theorem d_M_writes_24 : decode b_M_writes 24 = .ok (.getfield 105, 3) := by decide +kernel
theorem d_M_writes_27 : decode b_M_writes 27 = .ok (.putfield 105, 3) := by decide +kernel
theorem d_M_writes_30 : decode b_M_writes 30 = .ok (.iconst 4, 1) := by decide +kernel
theorem d_M_writes_31 : decode b_M_writes 31 = .ok (.iload_n 1, 1) := by decide +kernel
theorem d_M_writes_32 : decode b_M_writes 32 = .ok (.imul, 1) := by decide +kernel
theorem d_M_writes_33 : decode b_M_writes 33 = .ok (.istore_n 2, 1) := by decide +kernel
theorem d_M_writes_34 : decode b_M_writes 34 = .ok (.iload_n 2, 1) := by decide +kernel
theorem d_M_writes_35 : decode b_M_writes 35 = .ok (.iconst 4, 1) := by decide +kernel
theorem d_M_writes_36 : decode b_M_writes 36 = .ok (.iload_n 1, 1) := by decide +kernel
theorem d_M_writes_37 : decode b_M_writes 37 = .ok (.imul, 1) := by decide +kernel
theorem d_M_writes_38 : decode b_M_writes 38 = .ok (.iconst 4, 1) := by decide +kernel
theorem d_M_writes_39 : decode b_M_writes 39 = .ok (.iadd, 1) := by decide +kernel
theorem d_M_writes_40 : decode b_M_writes 40 = .ok (.if_icmp .ge 33, 3) := by decide +kernel
theorem d_M_writes_43 : decode b_M_writes 43 = .ok (.aload_n 0, 1) := by decide +kernel
theorem d_M_writes_44 : decode b_M_writes 44 = .ok (.getfield 7, 3) := by decide +kernel
theorem d_M_writes_47 : decode b_M_writes 47 = .ok (.iload_n 2, 1) := by decide +kernel
theorem d_M_writes_48 : decode b_M_writes 48 = .ok (.aload_n 0, 1) := by decide +kernel
theorem d_M_writes_49 : decode b_M_writes 49 = .ok (.getfield 20, 3) := by decide +kernel
theorem d_M_writes_52 : decode b_M_writes 52 = .ok (.iload_n 2, 1) := by decide +kernel
theorem d_M_writes_53 : decode b_M_writes 53 = .ok (.baload, 1) := by decide +kernel
theorem d_M_writes_54 : decode b_M_writes 54 = .ok (.bastore, 1) := by decide +kernel
theorem d_M_writes_55 : decode b_M_writes 55 = .ok (.aload_n 0, 1) := by decide +kernel
theorem d_M_writes_56 : decode b_M_writes 56 = .ok (.getfield 13, 3) := by decide +kernel
theorem d_M_writes_59 : decode b_M_writes 59 = .ok (.iload_n 2, 1) := by decide +kernel
theorem d_M_writes_60 : decode b_M_writes 60 = .ok (.aload_n 0, 1) := by decide +kernel
theorem d_M_writes_61 : decode b_M_writes 61 = .ok (.getfield 23, 3) := by decide +kernel
theorem d_M_writes_64 : decode b_M_writes 64 = .ok (.iload_n 2, 1) := by decide +kernel
theorem d_M_writes_65 : decode b_M_writes 65 = .ok (.iaload, 1) := by decide +kernel
theorem d_M_writes_66 : decode b_M_writes 66 = .ok (.iastore, 1) := by decide +kernel
theorem d_M_writes_67 : decode b_M_writes 67 = .ok (.iinc 2 1, 3) := by decide +kernel
theorem d_M_writes_70 : decode b_M_writes 70 = .ok (.goto (-36), 3) := by decide +kernel
theorem d_M_writes_73 : decode b_M_writes 73 = .ok (.aload_n 0, 1) := by decide +kernel
theorem d_M_writes_74 : decode b_M_writes 74 = .ok (.getfield 17, 3) := by decide +kernel
theorem d_M_writes_77 : decode b_M_writes 77 = .ok (.iload_n 1, 1) := by decide +kernel
theorem d_M_writes_78 : decode b_M_writes 78 = .ok (.aload_n 0, 1) := by decide +kernel
theorem d_M_writes_79 : decode b_M_writes 79 = .ok (.getfield 26, 3) := by decide +kernel
theorem d_M_writes_82 : decode b_M_writes 82 = .ok (.iload_n 1, 1) := by decide +kernel
theorem d_M_writes_83 : decode b_M_writes 83 = .ok (.iaload, 1) := by decide +kernel
theorem d_M_writes_84 : decode b_M_writes 84 = .ok (.iastore, 1) := by decide +kernel
theorem d_M_writes_85 : decode b_M_writes 85 = .ok (.aload_n 0, 1) := by decide +kernel
theorem d_M_writes_86 : decode b_M_writes 86 = .ok (.getfield 32, 3) := by decide +kernel
theorem d_M_writes_89 : decode b_M_writes 89 = .ok (.iload_n 1, 1) := by decide +kernel
theorem d_M_writes_90 : decode b_M_writes 90 = .ok (.iconst 0, 1) := by decide +kernel
theorem d_M_writes_91 : decode b_M_writes 91 = .ok (.bastore, 1) := by decide +kernel
theorem d_M_writes_92 : decode b_M_writes 92 = .ok (.return_, 1) := by decide +kernel
theorem d_M_touch_0 : decode b_M_touch 0 = .ok (.aload_n 0, 1) := by decide +kernel
theorem d_M_touch_1 : decode b_M_touch 1 = .ok (.dup, 1) := by decide +kernel
theorem d_M_touch_2 : decode b_M_touch 2 = .ok (.getfield 108, 3) := by decide +kernel
theorem d_M_touch_5 : decode b_M_touch 5 = .ok (.iconst 1, 1) := by decide +kernel
theorem d_M_touch_6 : decode b_M_touch 6 = .ok (.iadd, 1) := by decide +kernel
theorem d_M_touch_7 : decode b_M_touch 7 = .ok (.putfield 108, 3) := by decide +kernel
theorem d_M_touch_10 : decode b_M_touch 10 = .ok (.aload_n 0, 1) := by decide +kernel
theorem d_M_touch_11 : decode b_M_touch 11 = .ok (.getfield 29, 3) := by decide +kernel
theorem d_M_touch_14 : decode b_M_touch 14 = .ok (.iload_n 1, 1) := by decide +kernel
theorem d_M_touch_15 : decode b_M_touch 15 = .ok (.baload, 1) := by decide +kernel
theorem d_M_touch_16 : decode b_M_touch 16 = .ok (.ifCond .ne 182, 3) := by decide +kernel
theorem d_M_touch_19 : decode b_M_touch 19 = .ok (.iconst 0, 1) := by decide +kernel
theorem d_M_touch_20 : decode b_M_touch 20 = .ok (.istore_n 2, 1) := by decide +kernel
theorem d_M_touch_21 : decode b_M_touch 21 = .ok (.iconst (-1), 1) := by decide +kernel
theorem d_M_touch_22 : decode b_M_touch 22 = .ok (.istore_n 3, 1) := by decide +kernel
theorem d_M_touch_23 : decode b_M_touch 23 = .ok (.iconst 0, 1) := by decide +kernel
theorem d_M_touch_24 : decode b_M_touch 24 = .ok (.istore 4, 2) := by decide +kernel
theorem d_M_touch_26 : decode b_M_touch 26 = .ok (.iload 4, 2) := by decide +kernel
theorem d_M_touch_28 : decode b_M_touch 28 = .ok (.bipush 8, 2) := by decide +kernel
theorem d_M_touch_30 : decode b_M_touch 30 = .ok (.if_icmp .ge 64, 3) := by decide +kernel
theorem d_M_touch_33 : decode b_M_touch 33 = .ok (.iload_n 2, 1) := by decide +kernel
theorem d_M_touch_34 : decode b_M_touch 34 = .ok (.aload_n 0, 1) := by decide +kernel
theorem d_M_touch_35 : decode b_M_touch 35 = .ok (.getfield 29, 3) := by decide +kernel
theorem d_M_touch_38 : decode b_M_touch 38 = .ok (.iload 4, 2) := by decide +kernel
theorem d_M_touch_40 : decode b_M_touch 40 = .ok (.baload, 1) := by decide +kernel
theorem d_M_touch_41 : decode b_M_touch 41 = .ok (.ifCond .eq 7, 3) := by decide +kernel
theorem d_M_touch_44 : decode b_M_touch 44 = .ok (.iconst 1, 1) := by decide +kernel
theorem d_M_touch_45 : decode b_M_touch 45 = .ok (.goto 4, 3) := by decide +kernel
theorem d_M_touch_48 : decode b_M_touch 48 = .ok (.iconst 0, 1) := by decide +kernel
theorem d_M_touch_49 : decode b_M_touch 49 = .ok (.iadd, 1) := by decide +kernel
theorem d_M_touch_50 : decode b_M_touch 50 = .ok (.istore_n 2, 1) := by decide +kernel
theorem d_M_touch_51 : decode b_M_touch 51 = .ok (.aload_n 0, 1) := by decide +kernel
theorem d_M_touch_52 : decode b_M_touch 52 = .ok (.getfield 29, 3) := by decide +kernel
theorem d_M_touch_55 : decode b_M_touch 55 = .ok (.iload 4, 2) := by decide +kernel
theorem d_M_touch_57 : decode b_M_touch 57 = .ok (.baload, 1) := by decide +kernel
theorem d_M_touch_58 : decode b_M_touch 58 = .ok (.ifCond .eq 28, 3) := by decide +kernel
theorem d_M_touch_61 : decode b_M_touch 61 = .ok (.iload_n 3, 1) := by decide +kernel
theorem d_M_touch_62 : decode b_M_touch 62 = .ok (.ifCond .lt 19, 3) := by decide +kernel
theorem d_M_touch_65 : decode b_M_touch 65 = .ok (.aload_n 0, 1) := by decide +kernel
theorem d_M_touch_66 : decode b_M_touch 66 = .ok (.getfield 35, 3) := by decide +kernel
theorem d_M_touch_69 : decode b_M_touch 69 = .ok (.iload 4, 2) := by decide +kernel
theorem d_M_touch_71 : decode b_M_touch 71 = .ok (.iaload, 1) := by decide +kernel
theorem d_M_touch_72 : decode b_M_touch 72 = .ok (.aload_n 0, 1) := by decide +kernel
theorem d_M_touch_73 : decode b_M_touch 73 = .ok (.getfield 35, 3) := by decide +kernel
theorem d_M_touch_76 : decode b_M_touch 76 = .ok (.iload_n 3, 1) := by decide +kernel
theorem d_M_touch_77 : decode b_M_touch 77 = .ok (.iaload, 1) := by decide +kernel
theorem d_M_touch_78 : decode b_M_touch 78 = .ok (.if_icmp .ge 8, 3) := by decide +kernel
theorem d_M_touch_81 : decode b_M_touch 81 = .ok (.iload 4, 2) := by decide +kernel
theorem d_M_touch_83 : decode b_M_touch 83 = .ok (.goto 4, 3) := by decide +kernel
theorem d_M_touch_86 : decode b_M_touch 86 = .ok (.iload_n 3, 1) := by decide +kernel
theorem d_M_touch_87 : decode b_M_touch 87 = .ok (.istore_n 3, 1) := by decide +kernel
theorem d_M_touch_88 : decode b_M_touch 88 = .ok (.iinc 4 1, 3) := by decide +kernel
theorem d_M_touch_91 : decode b_M_touch 91 = .ok (.goto (-65), 3) := by decide +kernel
theorem d_M_touch_94 : decode b_M_touch 94 = .ok (.iload_n 2, 1) := by decide +kernel
theorem d_M_touch_95 : decode b_M_touch 95 = .ok (.aload_n 0, 1) := by decide +kernel
theorem d_M_touch_96 : decode b_M_touch 96 = .ok (.getfield 101, 3) := by decide +kernel
theorem d_M_touch_99 : decode b_M_touch 99 = .ok (.if_icmp .ne 24, 3) := by decide +kernel
theorem d_M_touch_102 : decode b_M_touch 102 = .ok (.aload_n 0, 1) := by decide +kernel
theorem d_M_touch_103 : decode b_M_touch 103 = .ok (.getfield 32, 3) := by decide +kernel
theorem d_M_touch_106 : decode b_M_touch 106 = .ok (.iload_n 3, 1) := by decide +kernel
theorem d_M_touch_107 : decode b_M_touch 107 = .ok (.baload, 1) := by decide +kernel
theorem d_M_touch_108 : decode b_M_touch 108 = .ok (.ifCond .eq 8, 3) := by decide +kernel
theorem d_M_touch_111 : decode b_M_touch 111 = .ok (.aload_n 0, 1) := by decide +kernel
theorem d_M_touch_112 : decode b_M_touch 112 = .ok (.iload_n 3, 1) := by decide +kernel
theorem d_M_touch_113 : decode b_M_touch 113 = .ok (.invokevirtual 111, 3) := by decide +kernel
theorem d_M_touch_116 : decode b_M_touch 116 = .ok (.aload_n 0, 1) := by decide +kernel
theorem d_M_touch_117 : decode b_M_touch 117 = .ok (.getfield 29, 3) := by decide +kernel
theorem d_M_touch_120 : decode b_M_touch 120 = .ok (.iload_n 3, 1) := by decide +kernel
theorem d_M_touch_121 : decode b_M_touch 121 = .ok (.iconst 0, 1) := by decide +kernel
theorem d_M_touch_122 : decode b_M_touch 122 = .ok (.bastore, 1) := by decide +kernel
theorem d_M_touch_123 : decode b_M_touch 123 = .ok (.iconst 4, 1) := by decide +kernel
theorem d_M_touch_124 : decode b_M_touch 124 = .ok (.iload_n 1, 1) := by decide +kernel
theorem d_M_touch_125 : decode b_M_touch 125 = .ok (.imul, 1) := by decide +kernel
theorem d_M_touch_126 : decode b_M_touch 126 = .ok (.istore 4, 2) := by decide +kernel
theorem d_M_touch_128 : decode b_M_touch 128 = .ok (.iload 4, 2) := by decide +kernel
theorem d_M_touch_130 : decode b_M_touch 130 = .ok (.iconst 4, 1) := by decide +kernel
theorem d_M_touch_131 : decode b_M_touch 131 = .ok (.iload_n 1, 1) := by decide +kernel
theorem d_M_touch_132 : decode b_M_touch 132 = .ok (.imul, 1) := by decide +kernel
theorem d_M_touch_133 : decode b_M_touch 133 = .ok (.iconst 4, 1) := by decide +kernel
theorem d_M_touch_134 : decode b_M_touch 134 = .ok (.iadd, 1) := by decide +kernel
theorem d_M_touch_135 : decode b_M_touch 135 = .ok (.if_icmp .ge 37, 3) := by decide +kernel
theorem d_M_touch_138 : decode b_M_touch 138 = .ok (.aload_n 0, 1) := by decide +kernel
theorem d_M_touch_139 : decode b_M_touch 139 = .ok (.getfield 20, 3) := by decide +kernel
theorem d_M_touch_142 : decode b_M_touch 142 = .ok (.iload 4, 2) := by decide +kernel
theorem d_M_touch_144 : decode b_M_touch 144 = .ok (.aload_n 0, 1) := by decide +kernel
theorem d_M_touch_145 : decode b_M_touch 145 = .ok (.getfield 7, 3) := by decide +kernel
theorem d_M_touch_148 : decode b_M_touch 148 = .ok (.iload 4, 2) := by decide +kernel
theorem d_M_touch_150 : decode b_M_touch 150 = .ok (.baload, 1) := by decide +kernel
theorem d_M_touch_151 : decode b_M_touch 151 = .ok (.bastore, 1) := by decide +kernel
theorem d_M_touch_152 : decode b_M_touch 152 = .ok (.aload_n 0, 1) := by decide +kernel
theorem d_M_touch_153 : decode b_M_touch 153 = .ok (.getfield 23, 3) := by decide +kernel
theorem d_M_touch_156 : decode b_M_touch 156 = .ok (.iload 4, 2) := by decide +kernel
theorem d_M_touch_158 : decode b_M_touch 158 = .ok (.aload_n 0, 1) := by decide +kernel
theorem d_M_touch_159 : decode b_M_touch 159 = .ok (.getfield 13, 3) := by decide +kernel
theorem d_M_touch_162 : decode b_M_touch 162 = .ok (.iload 4, 2) := by decide +kernel
theorem d_M_touch_164 : decode b_M_touch 164 = .ok (.iaload, 1) := by decide +kernel
theorem d_M_touch_165 : decode b_M_touch 165 = .ok (.iastore, 1) := by decide +kernel
theorem d_M_touch_166 : decode b_M_touch 166 = .ok (.iinc 4 1, 3) := by decide +kernel
theorem d_M_touch_169 : decode b_M_touch 169 = .ok (.goto (-41), 3) := by decide +kernel
theorem d_M_touch_172 : decode b_M_touch 172 = .ok (.aload_n 0, 1) := by decide +kernel
theorem d_M_touch_173 : decode b_M_touch 173 = .ok (.getfield 26, 3) := by decide +kernel
theorem d_M_touch_176 : decode b_M_touch 176 = .ok (.iload_n 1, 1) := by decide +kernel
theorem d_M_touch_177 : decode b_M_touch 177 = .ok (.aload_n 0, 1) := by decide +kernel
theorem d_M_touch_178 : decode b_M_touch 178 = .ok (.getfield 17, 3) := by decide +kernel
theorem d_M_touch_181 : decode b_M_touch 181 = .ok (.iload_n 1, 1) := by decide +kernel
theorem d_M_touch_182 : decode b_M_touch 182 = .ok (.iaload, 1) := by decide +kernel
theorem d_M_touch_183 : decode b_M_touch 183 = .ok (.iastore, 1) := by decide +kernel
theorem d_M_touch_184 : decode b_M_touch 184 = .ok (.aload_n 0, 1) := by decide +kernel
theorem d_M_touch_185 : decode b_M_touch 185 = .ok (.getfield 32, 3) := by decide +kernel
theorem d_M_touch_188 : decode b_M_touch 188 = .ok (.iload_n 1, 1) := by decide +kernel
theorem d_M_touch_189 : decode b_M_touch 189 = .ok (.iconst 0, 1) := by decide +kernel
theorem d_M_touch_190 : decode b_M_touch 190 = .ok (.bastore, 1) := by decide +kernel
theorem d_M_touch_191 : decode b_M_touch 191 = .ok (.aload_n 0, 1) := by decide +kernel
theorem d_M_touch_192 : decode b_M_touch 192 = .ok (.getfield 29, 3) := by decide +kernel
theorem d_M_touch_195 : decode b_M_touch 195 = .ok (.iload_n 1, 1) := by decide +kernel
theorem d_M_touch_196 : decode b_M_touch 196 = .ok (.iconst 1, 1) := by decide +kernel
theorem d_M_touch_197 : decode b_M_touch 197 = .ok (.bastore, 1) := by decide +kernel
theorem d_M_touch_198 : decode b_M_touch 198 = .ok (.aload_n 0, 1) := by decide +kernel
theorem d_M_touch_199 : decode b_M_touch 199 = .ok (.getfield 35, 3) := by decide +kernel
theorem d_M_touch_202 : decode b_M_touch 202 = .ok (.iload_n 1, 1) := by decide +kernel
theorem d_M_touch_203 : decode b_M_touch 203 = .ok (.aload_n 0, 1) := by decide +kernel
theorem d_M_touch_204 : decode b_M_touch 204 = .ok (.getfield 108, 3) := by decide +kernel
theorem d_M_touch_207 : decode b_M_touch 207 = .ok (.iastore, 1) := by decide +kernel
theorem d_M_touch_208 : decode b_M_touch 208 = .ok (.return_, 1) := by decide +kernel
theorem d_M_become_0 : decode b_M_become 0 = .ok (.aload_n 0, 1) := by decide +kernel
theorem d_M_become_1 : decode b_M_become 1 = .ok (.getfield 20, 3) := by decide +kernel
theorem d_M_become_4 : decode b_M_become 4 = .ok (.iload_n 1, 1) := by decide +kernel
theorem d_M_become_5 : decode b_M_become 5 = .ok (.iload_n 2, 1) := by decide +kernel
theorem d_M_become_6 : decode b_M_become 6 = .ok (.bastore, 1) := by decide +kernel
theorem d_M_become_7 : decode b_M_become 7 = .ok (.aload_n 0, 1) := by decide +kernel
theorem d_M_become_8 : decode b_M_become 8 = .ok (.getfield 23, 3) := by decide +kernel
theorem d_M_become_11 : decode b_M_become 11 = .ok (.iload_n 1, 1) := by decide +kernel
theorem d_M_become_12 : decode b_M_become 12 = .ok (.iload_n 2, 1) := by decide +kernel
theorem d_M_become_13 : decode b_M_become 13 = .ok (.ifCond .eq 7, 3) := by decide +kernel
theorem d_M_become_16 : decode b_M_become 16 = .ok (.iload_n 3, 1) := by decide +kernel
theorem d_M_become_17 : decode b_M_become 17 = .ok (.goto 4, 3) := by decide +kernel
theorem d_M_become_20 : decode b_M_become 20 = .ok (.iconst 0, 1) := by decide +kernel
theorem d_M_become_21 : decode b_M_become 21 = .ok (.iastore, 1) := by decide +kernel
theorem d_M_become_22 : decode b_M_become 22 = .ok (.aload_n 0, 1) := by decide +kernel
theorem d_M_become_23 : decode b_M_become 23 = .ok (.getfield 26, 3) := by decide +kernel
theorem d_M_become_26 : decode b_M_become 26 = .ok (.iload_n 1, 1) := by decide +kernel
theorem d_M_become_27 : decode b_M_become 27 = .ok (.iconst 4, 1) := by decide +kernel
theorem d_M_become_28 : decode b_M_become 28 = .ok (.idiv, 1) := by decide +kernel
theorem d_M_become_29 : decode b_M_become 29 = .ok (.iload 4, 2) := by decide +kernel
theorem d_M_become_31 : decode b_M_become 31 = .ok (.iastore, 1) := by decide +kernel
theorem d_M_become_32 : decode b_M_become 32 = .ok (.aload_n 0, 1) := by decide +kernel
theorem d_M_become_33 : decode b_M_become 33 = .ok (.getfield 32, 3) := by decide +kernel
theorem d_M_become_36 : decode b_M_become 36 = .ok (.iload_n 1, 1) := by decide +kernel
theorem d_M_become_37 : decode b_M_become 37 = .ok (.iconst 4, 1) := by decide +kernel
theorem d_M_become_38 : decode b_M_become 38 = .ok (.idiv, 1) := by decide +kernel
theorem d_M_become_39 : decode b_M_become 39 = .ok (.iconst 1, 1) := by decide +kernel
theorem d_M_become_40 : decode b_M_become 40 = .ok (.bastore, 1) := by decide +kernel
theorem d_M_become_41 : decode b_M_become 41 = .ok (.return_, 1) := by decide +kernel
theorem d_M_last_0 : decode b_M_last 0 = .ok (.aload_n 0, 1) := by decide +kernel
theorem d_M_last_1 : decode b_M_last 1 = .ok (.getfield 115, 3) := by decide +kernel
theorem d_M_last_4 : decode b_M_last 4 = .ok (.aload_n 0, 1) := by decide +kernel
theorem d_M_last_5 : decode b_M_last 5 = .ok (.getfield 118, 3) := by decide +kernel
theorem d_M_last_8 : decode b_M_last 8 = .ok (.iadd, 1) := by decide +kernel
theorem d_M_last_9 : decode b_M_last 9 = .ok (.ireturn, 1) := by decide +kernel
theorem d_M_append_0 : decode b_M_append 0 = .ok (.aload_n 0, 1) := by decide +kernel
theorem d_M_append_1 : decode b_M_append 1 = .ok (.getfield 118, 3) := by decide +kernel
theorem d_M_append_4 : decode b_M_append 4 = .ok (.istore 4, 2) := by decide +kernel
theorem d_M_append_6 : decode b_M_append 6 = .ok (.aload_n 0, 1) := by decide +kernel
theorem d_M_append_7 : decode b_M_append 7 = .ok (.getfield 38, 3) := by decide +kernel
theorem d_M_append_10 : decode b_M_append 10 = .ok (.iload 4, 2) := by decide +kernel
theorem d_M_append_12 : decode b_M_append 12 = .ok (.iload_n 1, 1) := by decide +kernel
theorem d_M_append_13 : decode b_M_append 13 = .ok (.iastore, 1) := by decide +kernel
theorem d_M_append_14 : decode b_M_append 14 = .ok (.aload_n 0, 1) := by decide +kernel
theorem d_M_append_15 : decode b_M_append 15 = .ok (.getfield 41, 3) := by decide +kernel
theorem d_M_append_18 : decode b_M_append 18 = .ok (.iload 4, 2) := by decide +kernel
theorem d_M_append_20 : decode b_M_append 20 = .ok (.iload_n 2, 1) := by decide +kernel
theorem d_M_append_21 : decode b_M_append 21 = .ok (.iastore, 1) := by decide +kernel
theorem d_M_append_22 : decode b_M_append 22 = .ok (.aload_n 0, 1) := by decide +kernel
theorem d_M_append_23 : decode b_M_append 23 = .ok (.getfield 44, 3) := by decide +kernel
theorem d_M_append_26 : decode b_M_append 26 = .ok (.iload 4, 2) := by decide +kernel
theorem d_M_append_28 : decode b_M_append 28 = .ok (.iload_n 3, 1) := by decide +kernel
theorem d_M_append_29 : decode b_M_append 29 = .ok (.iastore, 1) := by decide +kernel
theorem d_M_append_30 : decode b_M_append 30 = .ok (.aload_n 0, 1) := by decide +kernel
theorem d_M_append_31 : decode b_M_append 31 = .ok (.getfield 47, 3) := by decide +kernel
theorem d_M_append_34 : decode b_M_append 34 = .ok (.iload 4, 2) := by decide +kernel
theorem d_M_append_36 : decode b_M_append 36 = .ok (.iconst 0, 1) := by decide +kernel
theorem d_M_append_37 : decode b_M_append 37 = .ok (.iastore, 1) := by decide +kernel
theorem d_M_append_38 : decode b_M_append 38 = .ok (.aload_n 0, 1) := by decide +kernel
theorem d_M_append_39 : decode b_M_append 39 = .ok (.getfield 50, 3) := by decide +kernel
theorem d_M_append_42 : decode b_M_append 42 = .ok (.iload 4, 2) := by decide +kernel
theorem d_M_append_44 : decode b_M_append 44 = .ok (.iconst 0, 1) := by decide +kernel
theorem d_M_append_45 : decode b_M_append 45 = .ok (.bastore, 1) := by decide +kernel
theorem d_M_append_46 : decode b_M_append 46 = .ok (.aload_n 0, 1) := by decide +kernel
theorem d_M_append_47 : decode b_M_append 47 = .ok (.getfield 53, 3) := by decide +kernel
theorem d_M_append_50 : decode b_M_append 50 = .ok (.iload 4, 2) := by decide +kernel
theorem d_M_append_52 : decode b_M_append 52 = .ok (.iconst 0, 1) := by decide +kernel
theorem d_M_append_53 : decode b_M_append 53 = .ok (.iastore, 1) := by decide +kernel
theorem d_M_append_54 : decode b_M_append 54 = .ok (.aload_n 0, 1) := by decide +kernel
theorem d_M_append_55 : decode b_M_append 55 = .ok (.getfield 56, 3) := by decide +kernel
theorem d_M_append_58 : decode b_M_append 58 = .ok (.iload 4, 2) := by decide +kernel
theorem d_M_append_60 : decode b_M_append 60 = .ok (.iconst 0, 1) := by decide +kernel
theorem d_M_append_61 : decode b_M_append 61 = .ok (.bastore, 1) := by decide +kernel
theorem d_M_append_62 : decode b_M_append 62 = .ok (.aload_n 0, 1) := by decide +kernel
theorem d_M_append_63 : decode b_M_append 63 = .ok (.getfield 59, 3) := by decide +kernel
theorem d_M_append_66 : decode b_M_append 66 = .ok (.iload 4, 2) := by decide +kernel
theorem d_M_append_68 : decode b_M_append 68 = .ok (.iconst 0, 1) := by decide +kernel
theorem d_M_append_69 : decode b_M_append 69 = .ok (.iastore, 1) := by decide +kernel
theorem d_M_append_70 : decode b_M_append 70 = .ok (.aload_n 0, 1) := by decide +kernel
theorem d_M_append_71 : decode b_M_append 71 = .ok (.dup, 1) := by decide +kernel
theorem d_M_append_72 : decode b_M_append 72 = .ok (.getfield 118, 3) := by decide +kernel
theorem d_M_append_75 : decode b_M_append 75 = .ok (.iconst 1, 1) := by decide +kernel
theorem d_M_append_76 : decode b_M_append 76 = .ok (.iadd, 1) := by decide +kernel
theorem d_M_append_77 : decode b_M_append 77 = .ok (.putfield 118, 3) := by decide +kernel
theorem d_M_append_80 : decode b_M_append 80 = .ok (.iload 4, 2) := by decide +kernel
theorem d_M_append_82 : decode b_M_append 82 = .ok (.ireturn, 1) := by decide +kernel
theorem d_M_update_0 : decode b_M_update 0 = .ok (.aload_n 0, 1) := by decide +kernel
theorem d_M_update_1 : decode b_M_update 1 = .ok (.iconst 2, 1) := by decide +kernel
theorem d_M_update_2 : decode b_M_update 2 = .ok (.iload_n 1, 1) := by decide +kernel
theorem d_M_update_3 : decode b_M_update 3 = .ok (.iload_n 2, 1) := by decide +kernel
theorem d_M_update_4 : decode b_M_update 4 = .ok (.invokevirtual 121, 3) := by decide +kernel
theorem d_M_update_7 : decode b_M_update 7 = .ok (.istore 5, 2) := by decide +kernel
theorem d_M_update_9 : decode b_M_update 9 = .ok (.aload_n 0, 1) := by decide +kernel
theorem d_M_update_10 : decode b_M_update 10 = .ok (.iload_n 2, 1) := by decide +kernel
theorem d_M_update_11 : decode b_M_update 11 = .ok (.iconst 4, 1) := by decide +kernel
theorem d_M_update_12 : decode b_M_update 12 = .ok (.idiv, 1) := by decide +kernel
theorem d_M_update_13 : decode b_M_update 13 = .ok (.invokevirtual 125, 3) := by decide +kernel
theorem d_M_update_16 : decode b_M_update 16 = .ok (.aload_n 0, 1) := by decide +kernel
theorem d_M_update_17 : decode b_M_update 17 = .ok (.getfield 50, 3) := by decide +kernel
theorem d_M_update_20 : decode b_M_update 20 = .ok (.iload 5, 2) := by decide +kernel
theorem d_M_update_22 : decode b_M_update 22 = .ok (.aload_n 0, 1) := by decide +kernel
theorem d_M_update_23 : decode b_M_update 23 = .ok (.getfield 20, 3) := by decide +kernel
theorem d_M_update_26 : decode b_M_update 26 = .ok (.iload_n 2, 1) := by decide +kernel
theorem d_M_update_27 : decode b_M_update 27 = .ok (.baload, 1) := by decide +kernel
theorem d_M_update_28 : decode b_M_update 28 = .ok (.bastore, 1) := by decide +kernel
theorem d_M_update_29 : decode b_M_update 29 = .ok (.aload_n 0, 1) := by decide +kernel
theorem d_M_update_30 : decode b_M_update 30 = .ok (.getfield 53, 3) := by decide +kernel
theorem d_M_update_33 : decode b_M_update 33 = .ok (.iload 5, 2) := by decide +kernel
theorem d_M_update_35 : decode b_M_update 35 = .ok (.aload_n 0, 1) := by decide +kernel
theorem d_M_update_36 : decode b_M_update 36 = .ok (.getfield 23, 3) := by decide +kernel
theorem d_M_update_39 : decode b_M_update 39 = .ok (.iload_n 2, 1) := by decide +kernel
theorem d_M_update_40 : decode b_M_update 40 = .ok (.iaload, 1) := by decide +kernel
theorem d_M_update_41 : decode b_M_update 41 = .ok (.iastore, 1) := by decide +kernel
theorem d_M_update_42 : decode b_M_update 42 = .ok (.aload_n 0, 1) := by decide +kernel
theorem d_M_update_43 : decode b_M_update 43 = .ok (.getfield 56, 3) := by decide +kernel
theorem d_M_update_46 : decode b_M_update 46 = .ok (.iload 5, 2) := by decide +kernel
theorem d_M_update_48 : decode b_M_update 48 = .ok (.iload_n 3, 1) := by decide +kernel
theorem d_M_update_49 : decode b_M_update 49 = .ok (.bastore, 1) := by decide +kernel
theorem d_M_update_50 : decode b_M_update 50 = .ok (.aload_n 0, 1) := by decide +kernel
theorem d_M_update_51 : decode b_M_update 51 = .ok (.getfield 59, 3) := by decide +kernel
theorem d_M_update_54 : decode b_M_update 54 = .ok (.iload 5, 2) := by decide +kernel
theorem d_M_update_56 : decode b_M_update 56 = .ok (.iload_n 3, 1) := by decide +kernel
theorem d_M_update_57 : decode b_M_update 57 = .ok (.ifCond .eq 8, 3) := by decide +kernel
theorem d_M_update_60 : decode b_M_update 60 = .ok (.iload 4, 2) := by decide +kernel
theorem d_M_update_62 : decode b_M_update 62 = .ok (.goto 4, 3) := by decide +kernel
theorem d_M_update_65 : decode b_M_update 65 = .ok (.iconst 0, 1) := by decide +kernel
theorem d_M_update_66 : decode b_M_update 66 = .ok (.iastore, 1) := by decide +kernel
theorem d_M_update_67 : decode b_M_update 67 = .ok (.aload_n 0, 1) := by decide +kernel
theorem d_M_update_68 : decode b_M_update 68 = .ok (.iload_n 2, 1) := by decide +kernel
theorem d_M_update_69 : decode b_M_update 69 = .ok (.iload_n 3, 1) := by decide +kernel
theorem d_M_update_70 : decode b_M_update 70 = .ok (.iload 4, 2) := by decide +kernel
theorem d_M_update_72 : decode b_M_update 72 = .ok (.aload_n 0, 1) := by decide +kernel
theorem d_M_update_73 : decode b_M_update 73 = .ok (.invokevirtual 128, 3) := by decide +kernel
theorem d_M_update_76 : decode b_M_update 76 = .ok (.invokevirtual 132, 3) := by decide +kernel
theorem d_M_update_79 : decode b_M_update 79 = .ok (.return_, 1) := by decide +kernel
theorem d_M_undo_0 : decode b_M_undo 0 = .ok (.aload_n 0, 1) := by decide +kernel
theorem d_M_undo_1 : decode b_M_undo 1 = .ok (.iconst 3, 1) := by decide +kernel
theorem d_M_undo_2 : decode b_M_undo 2 = .ok (.iload_n 1, 1) := by decide +kernel
theorem d_M_undo_3 : decode b_M_undo 3 = .ok (.aload_n 0, 1) := by decide +kernel
theorem d_M_undo_4 : decode b_M_undo 4 = .ok (.getfield 44, 3) := by decide +kernel
theorem d_M_undo_7 : decode b_M_undo 7 = .ok (.iload_n 2, 1) := by decide +kernel
theorem d_M_undo_8 : decode b_M_undo 8 = .ok (.iaload, 1) := by decide +kernel
theorem d_M_undo_9 : decode b_M_undo 9 = .ok (.invokevirtual 121, 3) := by decide +kernel
theorem d_M_undo_12 : decode b_M_undo 12 = .ok (.istore_n 3, 1) := by decide +kernel
theorem d_M_undo_13 : decode b_M_undo 13 = .ok (.aload_n 0, 1) := by decide +kernel
theorem d_M_undo_14 : decode b_M_undo 14 = .ok (.getfield 47, 3) := by decide +kernel
theorem d_M_undo_17 : decode b_M_undo 17 = .ok (.iload_n 3, 1) := by decide +kernel
theorem d_M_undo_18 : decode b_M_undo 18 = .ok (.aload_n 0, 1) := by decide +kernel
theorem d_M_undo_19 : decode b_M_undo 19 = .ok (.getfield 115, 3) := by decide +kernel
theorem d_M_undo_22 : decode b_M_undo 22 = .ok (.iload_n 2, 1) := by decide +kernel
theorem d_M_undo_23 : decode b_M_undo 23 = .ok (.iadd, 1) := by decide +kernel
theorem d_M_undo_24 : decode b_M_undo 24 = .ok (.iconst 1, 1) := by decide +kernel
theorem d_M_undo_25 : decode b_M_undo 25 = .ok (.iadd, 1) := by decide +kernel
theorem d_M_undo_26 : decode b_M_undo 26 = .ok (.iastore, 1) := by decide +kernel
theorem d_M_undo_27 : decode b_M_undo 27 = .ok (.aload_n 0, 1) := by decide +kernel
theorem d_M_undo_28 : decode b_M_undo 28 = .ok (.getfield 56, 3) := by decide +kernel
theorem d_M_undo_31 : decode b_M_undo 31 = .ok (.iload_n 3, 1) := by decide +kernel
theorem d_M_undo_32 : decode b_M_undo 32 = .ok (.aload_n 0, 1) := by decide +kernel
theorem d_M_undo_33 : decode b_M_undo 33 = .ok (.getfield 50, 3) := by decide +kernel
theorem d_M_undo_36 : decode b_M_undo 36 = .ok (.iload_n 2, 1) := by decide +kernel
theorem d_M_undo_37 : decode b_M_undo 37 = .ok (.baload, 1) := by decide +kernel
theorem d_M_undo_38 : decode b_M_undo 38 = .ok (.bastore, 1) := by decide +kernel
theorem d_M_undo_39 : decode b_M_undo 39 = .ok (.aload_n 0, 1) := by decide +kernel
theorem d_M_undo_40 : decode b_M_undo 40 = .ok (.getfield 59, 3) := by decide +kernel
theorem d_M_undo_43 : decode b_M_undo 43 = .ok (.iload_n 3, 1) := by decide +kernel
theorem d_M_undo_44 : decode b_M_undo 44 = .ok (.aload_n 0, 1) := by decide +kernel
theorem d_M_undo_45 : decode b_M_undo 45 = .ok (.getfield 53, 3) := by decide +kernel
theorem d_M_undo_48 : decode b_M_undo 48 = .ok (.iload_n 2, 1) := by decide +kernel
theorem d_M_undo_49 : decode b_M_undo 49 = .ok (.iaload, 1) := by decide +kernel
theorem d_M_undo_50 : decode b_M_undo 50 = .ok (.iastore, 1) := by decide +kernel
theorem d_M_undo_51 : decode b_M_undo 51 = .ok (.aload_n 0, 1) := by decide +kernel
theorem d_M_undo_52 : decode b_M_undo 52 = .ok (.aload_n 0, 1) := by decide +kernel
theorem d_M_undo_53 : decode b_M_undo 53 = .ok (.getfield 44, 3) := by decide +kernel
theorem d_M_undo_56 : decode b_M_undo 56 = .ok (.iload_n 2, 1) := by decide +kernel
theorem d_M_undo_57 : decode b_M_undo 57 = .ok (.iaload, 1) := by decide +kernel
theorem d_M_undo_58 : decode b_M_undo 58 = .ok (.iconst 4, 1) := by decide +kernel
theorem d_M_undo_59 : decode b_M_undo 59 = .ok (.idiv, 1) := by decide +kernel
theorem d_M_undo_60 : decode b_M_undo 60 = .ok (.invokevirtual 125, 3) := by decide +kernel
theorem d_M_undo_63 : decode b_M_undo 63 = .ok (.aload_n 0, 1) := by decide +kernel
theorem d_M_undo_64 : decode b_M_undo 64 = .ok (.aload_n 0, 1) := by decide +kernel
theorem d_M_undo_65 : decode b_M_undo 65 = .ok (.getfield 44, 3) := by decide +kernel
theorem d_M_undo_68 : decode b_M_undo 68 = .ok (.iload_n 2, 1) := by decide +kernel
theorem d_M_undo_69 : decode b_M_undo 69 = .ok (.iaload, 1) := by decide +kernel
theorem d_M_undo_70 : decode b_M_undo 70 = .ok (.aload_n 0, 1) := by decide +kernel
theorem d_M_undo_71 : decode b_M_undo 71 = .ok (.getfield 56, 3) := by decide +kernel
theorem d_M_undo_74 : decode b_M_undo 74 = .ok (.iload_n 3, 1) := by decide +kernel
theorem d_M_undo_75 : decode b_M_undo 75 = .ok (.baload, 1) := by decide +kernel
theorem d_M_undo_76 : decode b_M_undo 76 = .ok (.aload_n 0, 1) := by decide +kernel
theorem d_M_undo_77 : decode b_M_undo 77 = .ok (.getfield 59, 3) := by decide +kernel
theorem d_M_undo_80 : decode b_M_undo 80 = .ok (.iload_n 3, 1) := by decide +kernel
theorem d_M_undo_81 : decode b_M_undo 81 = .ok (.iaload, 1) := by decide +kernel
theorem d_M_undo_82 : decode b_M_undo 82 = .ok (.aload_n 0, 1) := by decide +kernel
theorem d_M_undo_83 : decode b_M_undo 83 = .ok (.invokevirtual 128, 3) := by decide +kernel
theorem d_M_undo_86 : decode b_M_undo 86 = .ok (.invokevirtual 132, 3) := by decide +kernel
theorem d_M_undo_89 : decode b_M_undo 89 = .ok (.return_, 1) := by decide +kernel
theorem d_M_undone_0 : decode b_M_undone 0 = .ok (.iconst 0, 1) := by decide +kernel
theorem d_M_undone_1 : decode b_M_undone 1 = .ok (.istore_n 2, 1) := by decide +kernel
theorem d_M_undone_2 : decode b_M_undone 2 = .ok (.iload_n 1, 1) := by decide +kernel
theorem d_M_undone_3 : decode b_M_undone 3 = .ok (.iconst 1, 1) := by decide +kernel
theorem d_M_undone_4 : decode b_M_undone 4 = .ok (.iadd, 1) := by decide +kernel
theorem d_M_undone_5 : decode b_M_undone 5 = .ok (.istore_n 3, 1) := by decide +kernel
theorem d_M_undone_6 : decode b_M_undone 6 = .ok (.iload_n 3, 1) := by decide +kernel
theorem d_M_undone_7 : decode b_M_undone 7 = .ok (.aload_n 0, 1) := by decide +kernel
theorem d_M_undone_8 : decode b_M_undone 8 = .ok (.getfield 118, 3) := by decide +kernel
theorem d_M_undone_11 : decode b_M_undone 11 = .ok (.if_icmp .ge 46, 3) := by decide +kernel
theorem d_M_undone_14 : decode b_M_undone 14 = .ok (.iload_n 2, 1) := by decide +kernel
theorem d_M_undone_15 : decode b_M_undone 15 = .ok (.ifCond .ne 30, 3) := by decide +kernel
theorem d_M_undone_18 : decode b_M_undone 18 = .ok (.aload_n 0, 1) := by decide +kernel
theorem d_M_undone_19 : decode b_M_undone 19 = .ok (.getfield 38, 3) := by decide +kernel
theorem d_M_undone_22 : decode b_M_undone 22 = .ok (.iload_n 3, 1) := by decide +kernel
theorem d_M_undone_23 : decode b_M_undone 23 = .ok (.iaload, 1) := by decide +kernel
theorem d_M_undone_24 : decode b_M_undone 24 = .ok (.iconst 3, 1) := by decide +kernel
theorem d_M_undone_25 : decode b_M_undone 25 = .ok (.if_icmp .ne 24, 3) := by decide +kernel
theorem d_M_undone_28 : decode b_M_undone 28 = .ok (.aload_n 0, 1) := by decide +kernel
theorem d_M_undone_29 : decode b_M_undone 29 = .ok (.getfield 47, 3) := by decide +kernel
theorem d_M_undone_32 : decode b_M_undone 32 = .ok (.iload_n 3, 1) := by decide +kernel
theorem d_M_undone_33 : decode b_M_undone 33 = .ok (.iaload, 1) := by decide +kernel
theorem d_M_undone_34 : decode b_M_undone 34 = .ok (.aload_n 0, 1) := by decide +kernel
theorem d_M_undone_35 : decode b_M_undone 35 = .ok (.getfield 115, 3) := by decide +kernel
theorem d_M_undone_38 : decode b_M_undone 38 = .ok (.iload_n 1, 1) := by decide +kernel
theorem d_M_undone_39 : decode b_M_undone 39 = .ok (.iadd, 1) := by decide +kernel
theorem d_M_undone_40 : decode b_M_undone 40 = .ok (.iconst 1, 1) := by decide +kernel
theorem d_M_undone_41 : decode b_M_undone 41 = .ok (.iadd, 1) := by decide +kernel
theorem d_M_undone_42 : decode b_M_undone 42 = .ok (.if_icmp .ne 7, 3) := by decide +kernel
theorem d_M_undone_45 : decode b_M_undone 45 = .ok (.iconst 1, 1) := by decide +kernel
theorem d_M_undone_46 : decode b_M_undone 46 = .ok (.goto 4, 3) := by decide +kernel
theorem d_M_undone_49 : decode b_M_undone 49 = .ok (.iconst 0, 1) := by decide +kernel
theorem d_M_undone_50 : decode b_M_undone 50 = .ok (.istore_n 2, 1) := by decide +kernel
theorem d_M_undone_51 : decode b_M_undone 51 = .ok (.iinc 3 1, 3) := by decide +kernel
theorem d_M_undone_54 : decode b_M_undone 54 = .ok (.goto (-48), 3) := by decide +kernel
theorem d_M_undone_57 : decode b_M_undone 57 = .ok (.iload_n 2, 1) := by decide +kernel
theorem d_M_undone_58 : decode b_M_undone 58 = .ok (.ireturn, 1) := by decide +kernel
theorem d_M_top_0 : decode b_M_top 0 = .ok (.iload_n 1, 1) := by decide +kernel
theorem d_M_top_1 : decode b_M_top 1 = .ok (.istore_n 2, 1) := by decide +kernel
theorem d_M_top_2 : decode b_M_top 2 = .ok (.iconst 0, 1) := by decide +kernel
theorem d_M_top_3 : decode b_M_top 3 = .ok (.istore_n 3, 1) := by decide +kernel
theorem d_M_top_4 : decode b_M_top 4 = .ok (.iload_n 3, 1) := by decide +kernel
theorem d_M_top_5 : decode b_M_top 5 = .ok (.iconst 4, 1) := by decide +kernel
theorem d_M_top_6 : decode b_M_top 6 = .ok (.if_icmp .ge 25, 3) := by decide +kernel
theorem d_M_top_9 : decode b_M_top 9 = .ok (.aload_n 0, 1) := by decide +kernel
theorem d_M_top_10 : decode b_M_top 10 = .ok (.getfield 65, 3) := by decide +kernel
theorem d_M_top_13 : decode b_M_top 13 = .ok (.iload_n 2, 1) := by decide +kernel
theorem d_M_top_14 : decode b_M_top 14 = .ok (.iaload, 1) := by decide +kernel
theorem d_M_top_15 : decode b_M_top 15 = .ok (.ifCond .lt 16, 3) := by decide +kernel
theorem d_M_top_18 : decode b_M_top 18 = .ok (.aload_n 0, 1) := by decide +kernel
theorem d_M_top_19 : decode b_M_top 19 = .ok (.getfield 65, 3) := by decide +kernel
theorem d_M_top_22 : decode b_M_top 22 = .ok (.iload_n 2, 1) := by decide +kernel
theorem d_M_top_23 : decode b_M_top 23 = .ok (.iaload, 1) := by decide +kernel
theorem d_M_top_24 : decode b_M_top 24 = .ok (.istore_n 2, 1) := by decide +kernel
theorem d_M_top_25 : decode b_M_top 25 = .ok (.iinc 3 1, 3) := by decide +kernel
theorem d_M_top_28 : decode b_M_top 28 = .ok (.goto (-24), 3) := by decide +kernel
theorem d_M_top_31 : decode b_M_top 31 = .ok (.iload_n 2, 1) := by decide +kernel
theorem d_M_top_32 : decode b_M_top 32 = .ok (.ireturn, 1) := by decide +kernel
theorem d_M_open_0 : decode b_M_open 0 = .ok (.aload_n 0, 1) := by decide +kernel
theorem d_M_open_1 : decode b_M_open 1 = .ok (.getfield 38, 3) := by decide +kernel
theorem d_M_open_4 : decode b_M_open 4 = .ok (.iload_n 1, 1) := by decide +kernel
theorem d_M_open_5 : decode b_M_open 5 = .ok (.iaload, 1) := by decide +kernel
theorem d_M_open_6 : decode b_M_open 6 = .ok (.iconst 2, 1) := by decide +kernel
theorem d_M_open_7 : decode b_M_open 7 = .ok (.if_icmp .ne 53, 3) := by decide +kernel
theorem d_M_open_10 : decode b_M_open 10 = .ok (.aload_n 0, 1) := by decide +kernel
theorem d_M_open_11 : decode b_M_open 11 = .ok (.getfield 62, 3) := by decide +kernel
theorem d_M_open_14 : decode b_M_open 14 = .ok (.aload_n 0, 1) := by decide +kernel
theorem d_M_open_15 : decode b_M_open 15 = .ok (.aload_n 0, 1) := by decide +kernel
theorem d_M_open_16 : decode b_M_open 16 = .ok (.getfield 41, 3) := by decide +kernel
theorem d_M_open_19 : decode b_M_open 19 = .ok (.iload_n 1, 1) := by decide +kernel
theorem d_M_open_20 : decode b_M_open 20 = .ok (.iaload, 1) := by decide +kernel
theorem d_M_open_21 : decode b_M_open 21 = .ok (.invokevirtual 136, 3) := by decide +kernel
theorem d_M_open_24 : decode b_M_open 24 = .ok (.iaload, 1) := by decide +kernel
theorem d_M_open_25 : decode b_M_open 25 = .ok (.iconst 3, 1) := by decide +kernel
theorem d_M_open_26 : decode b_M_open 26 = .ok (.if_icmp .eq 34, 3) := by decide +kernel
theorem d_M_open_29 : decode b_M_open 29 = .ok (.aload_n 0, 1) := by decide +kernel
theorem d_M_open_30 : decode b_M_open 30 = .ok (.getfield 62, 3) := by decide +kernel
theorem d_M_open_33 : decode b_M_open 33 = .ok (.aload_n 0, 1) := by decide +kernel
theorem d_M_open_34 : decode b_M_open 34 = .ok (.aload_n 0, 1) := by decide +kernel
theorem d_M_open_35 : decode b_M_open 35 = .ok (.getfield 41, 3) := by decide +kernel
theorem d_M_open_38 : decode b_M_open 38 = .ok (.iload_n 1, 1) := by decide +kernel
theorem d_M_open_39 : decode b_M_open 39 = .ok (.iaload, 1) := by decide +kernel
theorem d_M_open_40 : decode b_M_open 40 = .ok (.invokevirtual 136, 3) := by decide +kernel
theorem d_M_open_43 : decode b_M_open 43 = .ok (.iaload, 1) := by decide +kernel
theorem d_M_open_44 : decode b_M_open 44 = .ok (.iconst 4, 1) := by decide +kernel
theorem d_M_open_45 : decode b_M_open 45 = .ok (.if_icmp .eq 15, 3) := by decide +kernel
theorem d_M_open_48 : decode b_M_open 48 = .ok (.aload_n 0, 1) := by decide +kernel
theorem d_M_open_49 : decode b_M_open 49 = .ok (.iload_n 1, 1) := by decide +kernel
theorem d_M_open_50 : decode b_M_open 50 = .ok (.invokevirtual 140, 3) := by decide +kernel
theorem d_M_open_53 : decode b_M_open 53 = .ok (.ifCond .ne 7, 3) := by decide +kernel
theorem d_M_open_56 : decode b_M_open 56 = .ok (.iconst 1, 1) := by decide +kernel
theorem d_M_open_57 : decode b_M_open 57 = .ok (.goto 4, 3) := by decide +kernel
theorem d_M_open_60 : decode b_M_open 60 = .ok (.iconst 0, 1) := by decide +kernel
theorem d_M_open_61 : decode b_M_open 61 = .ok (.ireturn, 1) := by decide +kernel
theorem d_M_opens_0 : decode b_M_opens 0 = .ok (.iconst 0, 1) := by decide +kernel
theorem d_M_opens_1 : decode b_M_opens 1 = .ok (.istore_n 1, 1) := by decide +kernel
theorem d_M_opens_2 : decode b_M_opens 2 = .ok (.iconst 0, 1) := by decide +kernel
theorem d_M_opens_3 : decode b_M_opens 3 = .ok (.istore_n 2, 1) := by decide +kernel
theorem d_M_opens_4 : decode b_M_opens 4 = .ok (.iload_n 2, 1) := by decide +kernel
theorem d_M_opens_5 : decode b_M_opens 5 = .ok (.aload_n 0, 1) := by decide +kernel
theorem d_M_opens_6 : decode b_M_opens 6 = .ok (.getfield 118, 3) := by decide +kernel
theorem d_M_opens_9 : decode b_M_opens 9 = .ok (.if_icmp .ge 25, 3) := by decide +kernel
theorem d_M_opens_12 : decode b_M_opens 12 = .ok (.iload_n 1, 1) := by decide +kernel
theorem d_M_opens_13 : decode b_M_opens 13 = .ok (.aload_n 0, 1) := by decide +kernel
theorem d_M_opens_14 : decode b_M_opens 14 = .ok (.iload_n 2, 1) := by decide +kernel
theorem d_M_opens_15 : decode b_M_opens 15 = .ok (.invokevirtual 144, 3) := by decide +kernel
theorem d_M_opens_18 : decode b_M_opens 18 = .ok (.ifCond .eq 7, 3) := by decide +kernel
theorem d_M_opens_21 : decode b_M_opens 21 = .ok (.iconst 1, 1) := by decide +kernel
theorem d_M_opens_22 : decode b_M_opens 22 = .ok (.goto 4, 3) := by decide +kernel
theorem d_M_opens_25 : decode b_M_opens 25 = .ok (.iconst 0, 1) := by decide +kernel
theorem d_M_opens_26 : decode b_M_opens 26 = .ok (.iadd, 1) := by decide +kernel
theorem d_M_opens_27 : decode b_M_opens 27 = .ok (.istore_n 1, 1) := by decide +kernel
theorem d_M_opens_28 : decode b_M_opens 28 = .ok (.iinc 2 1, 3) := by decide +kernel
theorem d_M_opens_31 : decode b_M_opens 31 = .ok (.goto (-27), 3) := by decide +kernel
theorem d_M_opens_34 : decode b_M_opens 34 = .ok (.iload_n 1, 1) := by decide +kernel
theorem d_M_opens_35 : decode b_M_opens 35 = .ok (.ireturn, 1) := by decide +kernel
theorem d_M_live_0 : decode b_M_live 0 = .ok (.aload_n 0, 1) := by decide +kernel
theorem d_M_live_1 : decode b_M_live 1 = .ok (.getfield 62, 3) := by decide +kernel
theorem d_M_live_4 : decode b_M_live 4 = .ok (.iload_n 1, 1) := by decide +kernel
