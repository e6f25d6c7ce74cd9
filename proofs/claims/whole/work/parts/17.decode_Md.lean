theorem d_M_crash_57 : decode b_M_crash 57 = .ok (.aload_n 0, 1) := by decide +kernel
theorem d_M_crash_58 : decode b_M_crash 58 = .ok (.getfield 32, 3) := by decide +kernel
theorem d_M_crash_61 : decode b_M_crash 61 = .ok (.iload_n 2, 1) := by decide +kernel
theorem d_M_crash_62 : decode b_M_crash 62 = .ok (.iconst 0, 1) := by decide +kernel
theorem d_M_crash_63 : decode b_M_crash 63 = .ok (.bastore, 1) := by decide +kernel
theorem d_M_crash_64 : decode b_M_crash 64 = .ok (.iinc 2 1, 3) := by decide +kernel
theorem d_M_crash_67 : decode b_M_crash 67 = .ok (.goto (-23), 3) := by decide +kernel
theorem d_M_crash_70 : decode b_M_crash 70 = .ok (.iconst 0, 1) := by decide +kernel
theorem d_M_crash_71 : decode b_M_crash 71 = .ok (.istore_n 2, 1) := by decide +kernel
theorem d_M_crash_72 : decode b_M_crash 72 = .ok (.iload_n 2, 1) := by decide +kernel
theorem d_M_crash_73 : decode b_M_crash 73 = .ok (.aload_n 0, 1) := by decide +kernel
theorem d_M_crash_74 : decode b_M_crash 74 = .ok (.getfield 147, 3) := by decide +kernel
theorem d_M_crash_77 : decode b_M_crash 77 = .ok (.if_icmp .ge 44, 3) := by decide +kernel
theorem d_M_crash_80 : decode b_M_crash 80 = .ok (.aload_n 0, 1) := by decide +kernel
theorem d_M_crash_81 : decode b_M_crash 81 = .ok (.iload_n 2, 1) := by decide +kernel
theorem d_M_crash_82 : decode b_M_crash 82 = .ok (.invokevirtual 245, 3) := by decide +kernel
theorem d_M_crash_85 : decode b_M_crash 85 = .ok (.aload_n 0, 1) := by decide +kernel
theorem d_M_crash_86 : decode b_M_crash 86 = .ok (.getfield 62, 3) := by decide +kernel
theorem d_M_crash_89 : decode b_M_crash 89 = .ok (.iload_n 2, 1) := by decide +kernel
theorem d_M_crash_90 : decode b_M_crash 90 = .ok (.aload_n 0, 1) := by decide +kernel
theorem d_M_crash_91 : decode b_M_crash 91 = .ok (.getfield 62, 3) := by decide +kernel
theorem d_M_crash_94 : decode b_M_crash 94 = .ok (.aload_n 0, 1) := by decide +kernel
theorem d_M_crash_95 : decode b_M_crash 95 = .ok (.iload_n 2, 1) := by decide +kernel
theorem d_M_crash_96 : decode b_M_crash 96 = .ok (.invokevirtual 136, 3) := by decide +kernel
theorem d_M_crash_99 : decode b_M_crash 99 = .ok (.iaload, 1) := by decide +kernel
theorem d_M_crash_100 : decode b_M_crash 100 = .ok (.iconst 3, 1) := by decide +kernel
theorem d_M_crash_101 : decode b_M_crash 101 = .ok (.if_icmp .ne 12, 3) := by decide +kernel
theorem d_M_crash_104 : decode b_M_crash 104 = .ok (.aload_n 0, 1) := by decide +kernel
theorem d_M_crash_105 : decode b_M_crash 105 = .ok (.getfield 62, 3) := by decide +kernel
theorem d_M_crash_108 : decode b_M_crash 108 = .ok (.iload_n 2, 1) := by decide +kernel
theorem d_M_crash_109 : decode b_M_crash 109 = .ok (.iaload, 1) := by decide +kernel
theorem d_M_crash_110 : decode b_M_crash 110 = .ok (.goto 4, 3) := by decide +kernel
theorem d_M_crash_113 : decode b_M_crash 113 = .ok (.iconst 4, 1) := by decide +kernel
theorem d_M_crash_114 : decode b_M_crash 114 = .ok (.iastore, 1) := by decide +kernel
theorem d_M_crash_115 : decode b_M_crash 115 = .ok (.iinc 2 1, 3) := by decide +kernel
theorem d_M_crash_118 : decode b_M_crash 118 = .ok (.goto (-46), 3) := by decide +kernel
theorem d_M_crash_121 : decode b_M_crash 121 = .ok (.aload_n 0, 1) := by decide +kernel
theorem d_M_crash_122 : decode b_M_crash 122 = .ok (.getfield 118, 3) := by decide +kernel
theorem d_M_crash_125 : decode b_M_crash 125 = .ok (.istore_n 2, 1) := by decide +kernel
theorem d_M_crash_126 : decode b_M_crash 126 = .ok (.iconst 0, 1) := by decide +kernel
theorem d_M_crash_127 : decode b_M_crash 127 = .ok (.istore_n 3, 1) := by decide +kernel
theorem d_M_crash_128 : decode b_M_crash 128 = .ok (.iload_n 3, 1) := by decide +kernel
theorem d_M_crash_129 : decode b_M_crash 129 = .ok (.iload_n 2, 1) := by decide +kernel
theorem d_M_crash_130 : decode b_M_crash 130 = .ok (.if_icmp .ge 95, 3) := by decide +kernel
theorem d_M_crash_133 : decode b_M_crash 133 = .ok (.aload_n 0, 1) := by decide +kernel
theorem d_M_crash_134 : decode b_M_crash 134 = .ok (.getfield 38, 3) := by decide +kernel
theorem d_M_crash_137 : decode b_M_crash 137 = .ok (.iload_n 3, 1) := by decide +kernel
theorem d_M_crash_138 : decode b_M_crash 138 = .ok (.iaload, 1) := by decide +kernel
theorem d_M_crash_139 : decode b_M_crash 139 = .ok (.iconst 2, 1) := by decide +kernel
theorem d_M_crash_140 : decode b_M_crash 140 = .ok (.if_icmp .eq 13, 3) := by decide +kernel
theorem d_M_crash_143 : decode b_M_crash 143 = .ok (.aload_n 0, 1) := by decide +kernel
theorem d_M_crash_144 : decode b_M_crash 144 = .ok (.getfield 38, 3) := by decide +kernel
theorem d_M_crash_147 : decode b_M_crash 147 = .ok (.iload_n 3, 1) := by decide +kernel
theorem d_M_crash_148 : decode b_M_crash 148 = .ok (.iaload, 1) := by decide +kernel
theorem d_M_crash_149 : decode b_M_crash 149 = .ok (.iconst 3, 1) := by decide +kernel
theorem d_M_crash_150 : decode b_M_crash 150 = .ok (.if_icmp .ne 69, 3) := by decide +kernel
theorem d_M_crash_153 : decode b_M_crash 153 = .ok (.aload_n 0, 1) := by decide +kernel
theorem d_M_crash_154 : decode b_M_crash 154 = .ok (.aload_n 0, 1) := by decide +kernel
theorem d_M_crash_155 : decode b_M_crash 155 = .ok (.getfield 44, 3) := by decide +kernel
theorem d_M_crash_158 : decode b_M_crash 158 = .ok (.iload_n 3, 1) := by decide +kernel
theorem d_M_crash_159 : decode b_M_crash 159 = .ok (.iaload, 1) := by decide +kernel
theorem d_M_crash_160 : decode b_M_crash 160 = .ok (.iconst 4, 1) := by decide +kernel
theorem d_M_crash_161 : decode b_M_crash 161 = .ok (.idiv, 1) := by decide +kernel
theorem d_M_crash_162 : decode b_M_crash 162 = .ok (.invokevirtual 125, 3) := by decide +kernel
theorem d_M_crash_165 : decode b_M_crash 165 = .ok (.aload_n 0, 1) := by decide +kernel
theorem d_M_crash_166 : decode b_M_crash 166 = .ok (.getfield 26, 3) := by decide +kernel
theorem d_M_crash_169 : decode b_M_crash 169 = .ok (.aload_n 0, 1) := by decide +kernel
theorem d_M_crash_170 : decode b_M_crash 170 = .ok (.getfield 44, 3) := by decide +kernel
theorem d_M_crash_173 : decode b_M_crash 173 = .ok (.iload_n 3, 1) := by decide +kernel
theorem d_M_crash_174 : decode b_M_crash 174 = .ok (.iaload, 1) := by decide +kernel
theorem d_M_crash_175 : decode b_M_crash 175 = .ok (.iconst 4, 1) := by decide +kernel
theorem d_M_crash_176 : decode b_M_crash 176 = .ok (.idiv, 1) := by decide +kernel
theorem d_M_crash_177 : decode b_M_crash 177 = .ok (.iaload, 1) := by decide +kernel
theorem d_M_crash_178 : decode b_M_crash 178 = .ok (.aload_n 0, 1) := by decide +kernel
theorem d_M_crash_179 : decode b_M_crash 179 = .ok (.getfield 115, 3) := by decide +kernel
theorem d_M_crash_182 : decode b_M_crash 182 = .ok (.iload_n 3, 1) := by decide +kernel
theorem d_M_crash_183 : decode b_M_crash 183 = .ok (.iadd, 1) := by decide +kernel
theorem d_M_crash_184 : decode b_M_crash 184 = .ok (.iconst 1, 1) := by decide +kernel
theorem d_M_crash_185 : decode b_M_crash 185 = .ok (.iadd, 1) := by decide +kernel
theorem d_M_crash_186 : decode b_M_crash 186 = .ok (.if_icmp .ge 33, 3) := by decide +kernel
theorem d_M_crash_189 : decode b_M_crash 189 = .ok (.aload_n 0, 1) := by decide +kernel
theorem d_M_crash_190 : decode b_M_crash 190 = .ok (.aload_n 0, 1) := by decide +kernel
theorem d_M_crash_191 : decode b_M_crash 191 = .ok (.getfield 44, 3) := by decide +kernel
theorem d_M_crash_194 : decode b_M_crash 194 = .ok (.iload_n 3, 1) := by decide +kernel
theorem d_M_crash_195 : decode b_M_crash 195 = .ok (.iaload, 1) := by decide +kernel
theorem d_M_crash_196 : decode b_M_crash 196 = .ok (.aload_n 0, 1) := by decide +kernel
theorem d_M_crash_197 : decode b_M_crash 197 = .ok (.getfield 56, 3) := by decide +kernel
theorem d_M_crash_200 : decode b_M_crash 200 = .ok (.iload_n 3, 1) := by decide +kernel
theorem d_M_crash_201 : decode b_M_crash 201 = .ok (.baload, 1) := by decide +kernel
theorem d_M_crash_202 : decode b_M_crash 202 = .ok (.aload_n 0, 1) := by decide +kernel
theorem d_M_crash_203 : decode b_M_crash 203 = .ok (.getfield 59, 3) := by decide +kernel
theorem d_M_crash_206 : decode b_M_crash 206 = .ok (.iload_n 3, 1) := by decide +kernel
theorem d_M_crash_207 : decode b_M_crash 207 = .ok (.iaload, 1) := by decide +kernel
theorem d_M_crash_208 : decode b_M_crash 208 = .ok (.aload_n 0, 1) := by decide +kernel
theorem d_M_crash_209 : decode b_M_crash 209 = .ok (.getfield 115, 3) := by decide +kernel
theorem d_M_crash_212 : decode b_M_crash 212 = .ok (.iload_n 3, 1) := by decide +kernel
theorem d_M_crash_213 : decode b_M_crash 213 = .ok (.iadd, 1) := by decide +kernel
theorem d_M_crash_214 : decode b_M_crash 214 = .ok (.iconst 1, 1) := by decide +kernel
theorem d_M_crash_215 : decode b_M_crash 215 = .ok (.iadd, 1) := by decide +kernel
theorem d_M_crash_216 : decode b_M_crash 216 = .ok (.invokevirtual 132, 3) := by decide +kernel
theorem d_M_crash_219 : decode b_M_crash 219 = .ok (.iinc 3 1, 3) := by decide +kernel
theorem d_M_crash_222 : decode b_M_crash 222 = .ok (.goto (-94), 3) := by decide +kernel
theorem d_M_crash_225 : decode b_M_crash 225 = .ok (.iconst 0, 1) := by decide +kernel
theorem d_M_crash_226 : decode b_M_crash 226 = .ok (.istore_n 3, 1) := by decide +kernel
theorem d_M_crash_227 : decode b_M_crash 227 = .ok (.iload_n 2, 1) := by decide +kernel
theorem d_M_crash_228 : decode b_M_crash 228 = .ok (.iconst 1, 1) := by decide +kernel
theorem d_M_crash_229 : decode b_M_crash 229 = .ok (.isub, 1) := by decide +kernel
theorem d_M_crash_230 : decode b_M_crash 230 = .ok (.istore 4, 2) := by decide +kernel
theorem d_M_crash_232 : decode b_M_crash 232 = .ok (.iload 4, 2) := by decide +kernel
theorem d_M_crash_234 : decode b_M_crash 234 = .ok (.ifCond .lt 67, 3) := by decide +kernel
theorem d_M_crash_237 : decode b_M_crash 237 = .ok (.aload_n 0, 1) := by decide +kernel
theorem d_M_crash_238 : decode b_M_crash 238 = .ok (.getfield 38, 3) := by decide +kernel
theorem d_M_crash_241 : decode b_M_crash 241 = .ok (.iload 4, 2) := by decide +kernel
theorem d_M_crash_243 : decode b_M_crash 243 = .ok (.iaload, 1) := by decide +kernel
theorem d_M_crash_244 : decode b_M_crash 244 = .ok (.iconst 2, 1) := by decide +kernel
theorem d_M_crash_245 : decode b_M_crash 245 = .ok (.if_icmp .ne 50, 3) := by decide +kernel
theorem d_M_crash_248 : decode b_M_crash 248 = .ok (.aload_n 0, 1) := by decide +kernel
theorem d_M_crash_249 : decode b_M_crash 249 = .ok (.iload 4, 2) := by decide +kernel
theorem d_M_crash_251 : decode b_M_crash 251 = .ok (.invokevirtual 140, 3) := by decide +kernel
theorem d_M_crash_254 : decode b_M_crash 254 = .ok (.ifCond .ne 41, 3) := by decide +kernel
theorem d_M_crash_257 : decode b_M_crash 257 = .ok (.aload_n 0, 1) := by decide +kernel
theorem d_M_crash_258 : decode b_M_crash 258 = .ok (.aload_n 0, 1) := by decide +kernel
theorem d_M_crash_259 : decode b_M_crash 259 = .ok (.aload_n 0, 1) := by decide +kernel
theorem d_M_crash_260 : decode b_M_crash 260 = .ok (.getfield 41, 3) := by decide +kernel
theorem d_M_crash_263 : decode b_M_crash 263 = .ok (.iload 4, 2) := by decide +kernel
theorem d_M_crash_265 : decode b_M_crash 265 = .ok (.iaload, 1) := by decide +kernel
theorem d_M_crash_266 : decode b_M_crash 266 = .ok (.invokevirtual 136, 3) := by decide +kernel
theorem d_M_crash_269 : decode b_M_crash 269 = .ok (.invokevirtual 261, 3) := by decide +kernel
theorem d_M_crash_272 : decode b_M_crash 272 = .ok (.ifCond .ne 23, 3) := by decide +kernel
theorem d_M_crash_275 : decode b_M_crash 275 = .ok (.aload_n 0, 1) := by decide +kernel
theorem d_M_crash_276 : decode b_M_crash 276 = .ok (.aload_n 0, 1) := by decide +kernel
theorem d_M_crash_277 : decode b_M_crash 277 = .ok (.aload_n 0, 1) := by decide +kernel
theorem d_M_crash_278 : decode b_M_crash 278 = .ok (.getfield 41, 3) := by decide +kernel
theorem d_M_crash_281 : decode b_M_crash 281 = .ok (.iload 4, 2) := by decide +kernel
theorem d_M_crash_283 : decode b_M_crash 283 = .ok (.iaload, 1) := by decide +kernel
theorem d_M_crash_284 : decode b_M_crash 284 = .ok (.invokevirtual 136, 3) := by decide +kernel
theorem d_M_crash_287 : decode b_M_crash 287 = .ok (.iload 4, 2) := by decide +kernel
theorem d_M_crash_289 : decode b_M_crash 289 = .ok (.invokevirtual 248, 3) := by decide +kernel
theorem d_M_crash_292 : decode b_M_crash 292 = .ok (.iinc 3 1, 3) := by decide +kernel
theorem d_M_crash_295 : decode b_M_crash 295 = .ok (.iinc 4 (-1), 3) := by decide +kernel
theorem d_M_crash_298 : decode b_M_crash 298 = .ok (.goto (-66), 3) := by decide +kernel
theorem d_M_crash_301 : decode b_M_crash 301 = .ok (.aload_n 0, 1) := by decide +kernel
theorem d_M_crash_302 : decode b_M_crash 302 = .ok (.aload_n 0, 1) := by decide +kernel
theorem d_M_crash_303 : decode b_M_crash 303 = .ok (.invokevirtual 128, 3) := by decide +kernel
theorem d_M_crash_306 : decode b_M_crash 306 = .ok (.putfield 105, 3) := by decide +kernel
theorem d_M_crash_309 : decode b_M_crash 309 = .ok (.iload_n 3, 1) := by decide +kernel
theorem d_M_crash_310 : decode b_M_crash 310 = .ok (.ireturn, 1) := by decide +kernel
theorem d_M_state_0 : decode b_M_state 0 = .ok (.aload_n 0, 1) := by decide +kernel
theorem d_M_state_1 : decode b_M_state 1 = .ok (.iload_n 1, 1) := by decide +kernel
theorem d_M_state_2 : decode b_M_state 2 = .ok (.invokevirtual 159, 3) := by decide +kernel
theorem d_M_state_5 : decode b_M_state 5 = .ok (.ifCond .eq 12, 3) := by decide +kernel
theorem d_M_state_8 : decode b_M_state 8 = .ok (.aload_n 0, 1) := by decide +kernel
theorem d_M_state_9 : decode b_M_state 9 = .ok (.getfield 62, 3) := by decide +kernel
theorem d_M_state_12 : decode b_M_state 12 = .ok (.iload_n 1, 1) := by decide +kernel
theorem d_M_state_13 : decode b_M_state 13 = .ok (.iaload, 1) := by decide +kernel
theorem d_M_state_14 : decode b_M_state 14 = .ok (.goto 4, 3) := by decide +kernel
theorem d_M_state_17 : decode b_M_state 17 = .ok (.iconst (-1), 1) := by decide +kernel
theorem d_M_state_18 : decode b_M_state 18 = .ok (.ireturn, 1) := by decide +kernel
theorem d_M_parent_0 : decode b_M_parent 0 = .ok (.aload_n 0, 1) := by decide +kernel
theorem d_M_parent_1 : decode b_M_parent 1 = .ok (.iload_n 1, 1) := by decide +kernel
theorem d_M_parent_2 : decode b_M_parent 2 = .ok (.invokevirtual 159, 3) := by decide +kernel
theorem d_M_parent_5 : decode b_M_parent 5 = .ok (.ifCond .eq 12, 3) := by decide +kernel
theorem d_M_parent_8 : decode b_M_parent 8 = .ok (.aload_n 0, 1) := by decide +kernel
theorem d_M_parent_9 : decode b_M_parent 9 = .ok (.getfield 65, 3) := by decide +kernel
theorem d_M_parent_12 : decode b_M_parent 12 = .ok (.iload_n 1, 1) := by decide +kernel
theorem d_M_parent_13 : decode b_M_parent 13 = .ok (.iaload, 1) := by decide +kernel
theorem d_M_parent_14 : decode b_M_parent 14 = .ok (.goto 4, 3) := by decide +kernel
theorem d_M_parent_17 : decode b_M_parent 17 = .ok (.iconst (-1), 1) := by decide +kernel
theorem d_M_parent_18 : decode b_M_parent 18 = .ok (.ireturn, 1) := by decide +kernel
theorem d_M_lock_0 : decode b_M_lock 0 = .ok (.aload_n 0, 1) := by decide +kernel
theorem d_M_lock_1 : decode b_M_lock 1 = .ok (.iload_n 1, 1) := by decide +kernel
theorem d_M_lock_2 : decode b_M_lock 2 = .ok (.invokevirtual 159, 3) := by decide +kernel
theorem d_M_lock_5 : decode b_M_lock 5 = .ok (.ifCond .eq 13, 3) := by decide +kernel
theorem d_M_lock_8 : decode b_M_lock 8 = .ok (.iload_n 2, 1) := by decide +kernel
theorem d_M_lock_9 : decode b_M_lock 9 = .ok (.ifCond .lt 9, 3) := by decide +kernel
theorem d_M_lock_12 : decode b_M_lock 12 = .ok (.iload_n 2, 1) := by decide +kernel
theorem d_M_lock_13 : decode b_M_lock 13 = .ok (.bipush 32, 2) := by decide +kernel
theorem d_M_lock_15 : decode b_M_lock 15 = .ok (.if_icmp .le 7, 3) := by decide +kernel
theorem d_M_lock_18 : decode b_M_lock 18 = .ok (.iconst (-1), 1) := by decide +kernel
theorem d_M_lock_19 : decode b_M_lock 19 = .ok (.goto 14, 3) := by decide +kernel
theorem d_M_lock_22 : decode b_M_lock 22 = .ok (.aload_n 0, 1) := by decide +kernel
theorem d_M_lock_23 : decode b_M_lock 23 = .ok (.getfield 71, 3) := by decide +kernel
theorem d_M_lock_26 : decode b_M_lock 26 = .ok (.bipush 33, 2) := by decide +kernel
theorem d_M_lock_28 : decode b_M_lock 28 = .ok (.iload_n 1, 1) := by decide +kernel
theorem d_M_lock_29 : decode b_M_lock 29 = .ok (.imul, 1) := by decide +kernel
theorem d_M_lock_30 : decode b_M_lock 30 = .ok (.iload_n 2, 1) := by decide +kernel
theorem d_M_lock_31 : decode b_M_lock 31 = .ok (.iadd, 1) := by decide +kernel
theorem d_M_lock_32 : decode b_M_lock 32 = .ok (.iaload, 1) := by decide +kernel
theorem d_M_lock_33 : decode b_M_lock 33 = .ok (.ireturn, 1) := by decide +kernel
theorem d_M_waits_0 : decode b_M_waits 0 = .ok (.aload_n 0, 1) := by decide +kernel
theorem d_M_waits_1 : decode b_M_waits 1 = .ok (.iload_n 1, 1) := by decide +kernel
theorem d_M_waits_2 : decode b_M_waits 2 = .ok (.invokevirtual 159, 3) := by decide +kernel
theorem d_M_waits_5 : decode b_M_waits 5 = .ok (.ifCond .eq 21, 3) := by decide +kernel
theorem d_M_waits_8 : decode b_M_waits 8 = .ok (.aload_n 0, 1) := by decide +kernel
theorem d_M_waits_9 : decode b_M_waits 9 = .ok (.iload_n 2, 1) := by decide +kernel
theorem d_M_waits_10 : decode b_M_waits 10 = .ok (.invokevirtual 159, 3) := by decide +kernel
theorem d_M_waits_13 : decode b_M_waits 13 = .ok (.ifCond .eq 13, 3) := by decide +kernel
theorem d_M_waits_16 : decode b_M_waits 16 = .ok (.aload_n 0, 1) := by decide +kernel
theorem d_M_waits_17 : decode b_M_waits 17 = .ok (.getfield 62, 3) := by decide +kernel
theorem d_M_waits_20 : decode b_M_waits 20 = .ok (.iload_n 1, 1) := by decide +kernel
theorem d_M_waits_21 : decode b_M_waits 21 = .ok (.iaload, 1) := by decide +kernel
theorem d_M_waits_22 : decode b_M_waits 22 = .ok (.iconst 2, 1) := by decide +kernel
theorem d_M_waits_23 : decode b_M_waits 23 = .ok (.if_icmp .eq 5, 3) := by decide +kernel
theorem d_M_waits_26 : decode b_M_waits 26 = .ok (.iconst 0, 1) := by decide +kernel
theorem d_M_waits_27 : decode b_M_waits 27 = .ok (.ireturn, 1) := by decide +kernel
theorem d_M_waits_28 : decode b_M_waits 28 = .ok (.aload_n 0, 1) := by decide +kernel
theorem d_M_waits_29 : decode b_M_waits 29 = .ok (.invokevirtual 203, 3) := by decide +kernel
theorem d_M_waits_32 : decode b_M_waits 32 = .ok (.aload_n 0, 1) := by decide +kernel
theorem d_M_waits_33 : decode b_M_waits 33 = .ok (.getfield 86, 3) := by decide +kernel
theorem d_M_waits_36 : decode b_M_waits 36 = .ok (.iload_n 1, 1) := by decide +kernel
theorem d_M_waits_37 : decode b_M_waits 37 = .ok (.iaload, 1) := by decide +kernel
theorem d_M_waits_38 : decode b_M_waits 38 = .ok (.ifCond .lt 28, 3) := by decide +kernel
theorem d_M_waits_41 : decode b_M_waits 41 = .ok (.aload_n 0, 1) := by decide +kernel
theorem d_M_waits_42 : decode b_M_waits 42 = .ok (.iload_n 2, 1) := by decide +kernel
theorem d_M_waits_43 : decode b_M_waits 43 = .ok (.iload_n 1, 1) := by decide +kernel
theorem d_M_waits_44 : decode b_M_waits 44 = .ok (.aload_n 0, 1) := by decide +kernel
theorem d_M_waits_45 : decode b_M_waits 45 = .ok (.getfield 86, 3) := by decide +kernel
theorem d_M_waits_48 : decode b_M_waits 48 = .ok (.iload_n 1, 1) := by decide +kernel
theorem d_M_waits_49 : decode b_M_waits 49 = .ok (.iaload, 1) := by decide +kernel
theorem d_M_waits_50 : decode b_M_waits 50 = .ok (.aload_n 0, 1) := by decide +kernel
theorem d_M_waits_51 : decode b_M_waits 51 = .ok (.getfield 89, 3) := by decide +kernel
theorem d_M_waits_54 : decode b_M_waits 54 = .ok (.iload_n 1, 1) := by decide +kernel
theorem d_M_waits_55 : decode b_M_waits 55 = .ok (.iaload, 1) := by decide +kernel
theorem d_M_waits_56 : decode b_M_waits 56 = .ok (.invokevirtual 191, 3) := by decide +kernel
theorem d_M_waits_59 : decode b_M_waits 59 = .ok (.ifCond .eq 7, 3) := by decide +kernel
theorem d_M_waits_62 : decode b_M_waits 62 = .ok (.iconst 1, 1) := by decide +kernel
theorem d_M_waits_63 : decode b_M_waits 63 = .ok (.goto 4, 3) := by decide +kernel
theorem d_M_waits_66 : decode b_M_waits 66 = .ok (.iconst 0, 1) := by decide +kernel
theorem d_M_waits_67 : decode b_M_waits 67 = .ok (.ireturn, 1) := by decide +kernel
theorem d_M_entry_0 : decode b_M_entry 0 = .ok (.iload_n 1, 1) := by decide +kernel
theorem d_M_entry_1 : decode b_M_entry 1 = .ok (.aload_n 0, 1) := by decide +kernel
theorem d_M_entry_2 : decode b_M_entry 2 = .ok (.getfield 115, 3) := by decide +kernel
theorem d_M_entry_5 : decode b_M_entry 5 = .ok (.isub, 1) := by decide +kernel
theorem d_M_entry_6 : decode b_M_entry 6 = .ok (.iconst 1, 1) := by decide +kernel
theorem d_M_entry_7 : decode b_M_entry 7 = .ok (.isub, 1) := by decide +kernel
theorem d_M_entry_8 : decode b_M_entry 8 = .ok (.istore_n 3, 1) := by decide +kernel
theorem d_M_entry_9 : decode b_M_entry 9 = .ok (.iload_n 1, 1) := by decide +kernel
theorem d_M_entry_10 : decode b_M_entry 10 = .ok (.aload_n 0, 1) := by decide +kernel
theorem d_M_entry_11 : decode b_M_entry 11 = .ok (.getfield 115, 3) := by decide +kernel
theorem d_M_entry_14 : decode b_M_entry 14 = .ok (.if_icmp .le 20, 3) := by decide +kernel
theorem d_M_entry_17 : decode b_M_entry 17 = .ok (.iload_n 1, 1) := by decide +kernel
theorem d_M_entry_18 : decode b_M_entry 18 = .ok (.aload_n 0, 1) := by decide +kernel
theorem d_M_entry_19 : decode b_M_entry 19 = .ok (.invokevirtual 128, 3) := by decide +kernel
theorem d_M_entry_22 : decode b_M_entry 22 = .ok (.if_icmp .gt 12, 3) := by decide +kernel
theorem d_M_entry_25 : decode b_M_entry 25 = .ok (.iload_n 2, 1) := by decide +kernel
theorem d_M_entry_26 : decode b_M_entry 26 = .ok (.ifCond .lt 8, 3) := by decide +kernel
theorem d_M_entry_29 : decode b_M_entry 29 = .ok (.iload_n 2, 1) := by decide +kernel
theorem d_M_entry_30 : decode b_M_entry 30 = .ok (.iconst 5, 1) := by decide +kernel
theorem d_M_entry_31 : decode b_M_entry 31 = .ok (.if_icmp .le 5, 3) := by decide +kernel
theorem d_M_entry_34 : decode b_M_entry 34 = .ok (.iconst (-1), 1) := by decide +kernel
theorem d_M_entry_35 : decode b_M_entry 35 = .ok (.ireturn, 1) := by decide +kernel
theorem d_M_entry_36 : decode b_M_entry 36 = .ok (.iload_n 2, 1) := by decide +kernel
theorem d_M_entry_37 : decode b_M_entry 37 = .ok (.tableswitch 105 0 4 #[35, 42, 49, 56, 90], 35) := by decide +kernel
theorem d_M_entry_72 : decode b_M_entry 72 = .ok (.aload_n 0, 1) := by decide +kernel
theorem d_M_entry_73 : decode b_M_entry 73 = .ok (.getfield 38, 3) := by decide +kernel
theorem d_M_entry_76 : decode b_M_entry 76 = .ok (.iload_n 3, 1) := by decide +kernel
theorem d_M_entry_77 : decode b_M_entry 77 = .ok (.iaload, 1) := by decide +kernel
theorem d_M_entry_78 : decode b_M_entry 78 = .ok (.ireturn, 1) := by decide +kernel
theorem d_M_entry_79 : decode b_M_entry 79 = .ok (.aload_n 0, 1) := by decide +kernel
theorem d_M_entry_80 : decode b_M_entry 80 = .ok (.getfield 41, 3) := by decide +kernel
theorem d_M_entry_83 : decode b_M_entry 83 = .ok (.iload_n 3, 1) := by decide +kernel
theorem d_M_entry_84 : decode b_M_entry 84 = .ok (.iaload, 1) := by decide +kernel
theorem d_M_entry_85 : decode b_M_entry 85 = .ok (.ireturn, 1) := by decide +kernel
theorem d_M_entry_86 : decode b_M_entry 86 = .ok (.aload_n 0, 1) := by decide +kernel
theorem d_M_entry_87 : decode b_M_entry 87 = .ok (.getfield 44, 3) := by decide +kernel
theorem d_M_entry_90 : decode b_M_entry 90 = .ok (.iload_n 3, 1) := by decide +kernel
theorem d_M_entry_91 : decode b_M_entry 91 = .ok (.iaload, 1) := by decide +kernel
theorem d_M_entry_92 : decode b_M_entry 92 = .ok (.ireturn, 1) := by decide +kernel
theorem d_M_entry_93 : decode b_M_entry 93 = .ok (.aload_n 0, 1) := by decide +kernel
theorem d_M_entry_94 : decode b_M_entry 94 = .ok (.getfield 38, 3) := by decide +kernel
theorem d_M_entry_97 : decode b_M_entry 97 = .ok (.iload_n 3, 1) := by decide +kernel
theorem d_M_entry_98 : decode b_M_entry 98 = .ok (.iaload, 1) := by decide +kernel
theorem d_M_entry_99 : decode b_M_entry 99 = .ok (.iconst 3, 1) := by decide +kernel
theorem d_M_entry_100 : decode b_M_entry 100 = .ok (.if_icmp .ne 12, 3) := by decide +kernel
theorem d_M_entry_103 : decode b_M_entry 103 = .ok (.aload_n 0, 1) := by decide +kernel
theorem d_M_entry_104 : decode b_M_entry 104 = .ok (.getfield 47, 3) := by decide +kernel
theorem d_M_entry_107 : decode b_M_entry 107 = .ok (.iload_n 3, 1) := by decide +kernel
theorem d_M_entry_108 : decode b_M_entry 108 = .ok (.iaload, 1) := by decide +kernel
theorem d_M_entry_109 : decode b_M_entry 109 = .ok (.goto 17, 3) := by decide +kernel
theorem d_M_entry_112 : decode b_M_entry 112 = .ok (.aload_n 0, 1) := by decide +kernel
theorem d_M_entry_113 : decode b_M_entry 113 = .ok (.getfield 50, 3) := by decide +kernel
theorem d_M_entry_116 : decode b_M_entry 116 = .ok (.iload_n 3, 1) := by decide +kernel
theorem d_M_entry_117 : decode b_M_entry 117 = .ok (.baload, 1) := by decide +kernel
theorem d_M_entry_118 : decode b_M_entry 118 = .ok (.ifCond .eq 7, 3) := by decide +kernel
theorem d_M_entry_121 : decode b_M_entry 121 = .ok (.iconst 1, 1) := by decide +kernel
theorem d_M_entry_122 : decode b_M_entry 122 = .ok (.goto 4, 3) := by decide +kernel
theorem d_M_entry_125 : decode b_M_entry 125 = .ok (.iconst 0, 1) := by decide +kernel
theorem d_M_entry_126 : decode b_M_entry 126 = .ok (.ireturn, 1) := by decide +kernel
theorem d_M_entry_127 : decode b_M_entry 127 = .ok (.aload_n 0, 1) := by decide +kernel
theorem d_M_entry_128 : decode b_M_entry 128 = .ok (.getfield 56, 3) := by decide +kernel
theorem d_M_entry_131 : decode b_M_entry 131 = .ok (.iload_n 3, 1) := by decide +kernel
theorem d_M_entry_132 : decode b_M_entry 132 = .ok (.baload, 1) := by decide +kernel
theorem d_M_entry_133 : decode b_M_entry 133 = .ok (.ifCond .eq 7, 3) := by decide +kernel
theorem d_M_entry_136 : decode b_M_entry 136 = .ok (.iconst 1, 1) := by decide +kernel
theorem d_M_entry_137 : decode b_M_entry 137 = .ok (.goto 4, 3) := by decide +kernel
theorem d_M_entry_140 : decode b_M_entry 140 = .ok (.iconst 0, 1) := by decide +kernel
theorem d_M_entry_141 : decode b_M_entry 141 = .ok (.ireturn, 1) := by decide +kernel
theorem d_M_entry_142 : decode b_M_entry 142 = .ok (.aload_n 0, 1) := by decide +kernel
theorem d_M_entry_143 : decode b_M_entry 143 = .ok (.getfield 59, 3) := by decide +kernel
theorem d_M_entry_146 : decode b_M_entry 146 = .ok (.iload_n 3, 1) := by decide +kernel
theorem d_M_entry_147 : decode b_M_entry 147 = .ok (.iaload, 1) := by decide +kernel
theorem d_M_entry_148 : decode b_M_entry 148 = .ok (.ireturn, 1) := by decide +kernel
theorem d_M_log_0 : decode b_M_log 0 = .ok (.iload_n 1, 1) := by decide +kernel
theorem d_M_log_1 : decode b_M_log 1 = .ok (.tableswitch 60 0 4 #[35, 40, 45, 50, 55], 35) := by decide +kernel
theorem d_M_log_36 : decode b_M_log 36 = .ok (.aload_n 0, 1) := by decide +kernel
theorem d_M_log_37 : decode b_M_log 37 = .ok (.invokevirtual 128, 3) := by decide +kernel
theorem d_M_log_40 : decode b_M_log 40 = .ok (.ireturn, 1) := by decide +kernel
theorem d_M_log_41 : decode b_M_log 41 = .ok (.aload_n 0, 1) := by decide +kernel
theorem d_M_log_42 : decode b_M_log 42 = .ok (.getfield 105, 3) := by decide +kernel
theorem d_M_log_45 : decode b_M_log 45 = .ok (.ireturn, 1) := by decide +kernel
theorem d_M_log_46 : decode b_M_log 46 = .ok (.aload_n 0, 1) := by decide +kernel
theorem d_M_log_47 : decode b_M_log 47 = .ok (.getfield 118, 3) := by decide +kernel
theorem d_M_log_50 : decode b_M_log 50 = .ok (.ireturn, 1) := by decide +kernel
theorem d_M_log_51 : decode b_M_log 51 = .ok (.aload_n 0, 1) := by decide +kernel
theorem d_M_log_52 : decode b_M_log 52 = .ok (.invokevirtual 153, 3) := by decide +kernel
theorem d_M_log_55 : decode b_M_log 55 = .ok (.ireturn, 1) := by decide +kernel
theorem d_M_log_56 : decode b_M_log 56 = .ok (.aload_n 0, 1) := by decide +kernel
theorem d_M_log_57 : decode b_M_log 57 = .ok (.invokevirtual 156, 3) := by decide +kernel
theorem d_M_log_60 : decode b_M_log 60 = .ok (.ireturn, 1) := by decide +kernel
theorem d_M_log_61 : decode b_M_log 61 = .ok (.iconst (-1), 1) := by decide +kernel
theorem d_M_log_62 : decode b_M_log 62 = .ok (.ireturn, 1) := by decide +kernel
theorem d_M_key_0 : decode b_M_key 0 = .ok (.iload_n 1, 1) := by decide +kernel
theorem d_M_key_1 : decode b_M_key 1 = .ok (.invokestatic 239, 3) := by decide +kernel
theorem d_M_key_4 : decode b_M_key 4 = .ok (.ifCond .eq 12, 3) := by decide +kernel
theorem d_M_key_7 : decode b_M_key 7 = .ok (.iload_n 2, 1) := by decide +kernel
theorem d_M_key_8 : decode b_M_key 8 = .ok (.ifCond .lt 8, 3) := by decide +kernel
theorem d_M_key_11 : decode b_M_key 11 = .ok (.iload_n 2, 1) := by decide +kernel
theorem d_M_key_12 : decode b_M_key 12 = .ok (.iconst 3, 1) := by decide +kernel
theorem d_M_key_13 : decode b_M_key 13 = .ok (.if_icmp .le 5, 3) := by decide +kernel
theorem d_M_key_16 : decode b_M_key 16 = .ok (.iconst (-1), 1) := by decide +kernel
theorem d_M_key_17 : decode b_M_key 17 = .ok (.ireturn, 1) := by decide +kernel
theorem d_M_key_18 : decode b_M_key 18 = .ok (.iload_n 2, 1) := by decide +kernel
theorem d_M_key_19 : decode b_M_key 19 = .ok (.iconst 2, 1) := by decide +kernel
theorem d_M_key_20 : decode b_M_key 20 = .ok (.if_icmp .ge 29, 3) := by decide +kernel
theorem d_M_key_23 : decode b_M_key 23 = .ok (.iload_n 2, 1) := by decide +kernel
theorem d_M_key_24 : decode b_M_key 24 = .ok (.ifCond .ne 19, 3) := by decide +kernel
theorem d_M_key_27 : decode b_M_key 27 = .ok (.aload_n 0, 1) := by decide +kernel
theorem d_M_key_28 : decode b_M_key 28 = .ok (.iload_n 1, 1) := by decide +kernel
theorem d_M_key_29 : decode b_M_key 29 = .ok (.invokevirtual 172, 3) := by decide +kernel
theorem d_M_key_32 : decode b_M_key 32 = .ok (.ifCond .eq 7, 3) := by decide +kernel
theorem d_M_key_35 : decode b_M_key 35 = .ok (.iconst 1, 1) := by decide +kernel
theorem d_M_key_36 : decode b_M_key 36 = .ok (.goto 12, 3) := by decide +kernel
theorem d_M_key_39 : decode b_M_key 39 = .ok (.iconst 0, 1) := by decide +kernel
theorem d_M_key_40 : decode b_M_key 40 = .ok (.goto 8, 3) := by decide +kernel
theorem d_M_key_43 : decode b_M_key 43 = .ok (.aload_n 0, 1) := by decide +kernel
theorem d_M_key_44 : decode b_M_key 44 = .ok (.iload_n 1, 1) := by decide +kernel
theorem d_M_key_45 : decode b_M_key 45 = .ok (.invokevirtual 213, 3) := by decide +kernel
theorem d_M_key_48 : decode b_M_key 48 = .ok (.ireturn, 1) := by decide +kernel
theorem d_M_key_49 : decode b_M_key 49 = .ok (.iload_n 2, 1) := by decide +kernel
theorem d_M_key_50 : decode b_M_key 50 = .ok (.iconst 2, 1) := by decide +kernel
theorem d_M_key_51 : decode b_M_key 51 = .ok (.if_icmp .ne 20, 3) := by decide +kernel
theorem d_M_key_54 : decode b_M_key 54 = .ok (.aload_n 0, 1) := by decide +kernel
theorem d_M_key_55 : decode b_M_key 55 = .ok (.getfield 7, 3) := by decide +kernel
theorem d_M_key_58 : decode b_M_key 58 = .ok (.iload_n 1, 1) := by decide +kernel
theorem d_M_key_59 : decode b_M_key 59 = .ok (.baload, 1) := by decide +kernel
theorem d_M_key_60 : decode b_M_key 60 = .ok (.ifCond .eq 7, 3) := by decide +kernel
theorem d_M_key_63 : decode b_M_key 63 = .ok (.iconst 1, 1) := by decide +kernel
theorem d_M_key_64 : decode b_M_key 64 = .ok (.goto 13, 3) := by decide +kernel
theorem d_M_key_67 : decode b_M_key 67 = .ok (.iconst 0, 1) := by decide +kernel
theorem d_M_key_68 : decode b_M_key 68 = .ok (.goto 9, 3) := by decide +kernel
theorem d_M_key_71 : decode b_M_key 71 = .ok (.aload_n 0, 1) := by decide +kernel
theorem d_M_key_72 : decode b_M_key 72 = .ok (.getfield 13, 3) := by decide +kernel
theorem d_M_key_75 : decode b_M_key 75 = .ok (.iload_n 1, 1) := by decide +kernel
theorem d_M_key_76 : decode b_M_key 76 = .ok (.iaload, 1) := by decide +kernel
theorem d_M_key_77 : decode b_M_key 77 = .ok (.ireturn, 1) := by decide +kernel
theorem d_M_frame_0 : decode b_M_frame 0 = .ok (.iconst 0, 1) := by decide +kernel
theorem d_M_frame_1 : decode b_M_frame 1 = .ok (.istore_n 2, 1) := by decide +kernel
theorem d_M_frame_2 : decode b_M_frame 2 = .ok (.iload_n 2, 1) := by decide +kernel
theorem d_M_frame_3 : decode b_M_frame 3 = .ok (.bipush 8, 2) := by decide +kernel
theorem d_M_frame_5 : decode b_M_frame 5 = .ok (.if_icmp .ge 98, 3) := by decide +kernel
theorem d_M_frame_8 : decode b_M_frame 8 = .ok (.iload_n 1, 1) := by decide +kernel
theorem d_M_frame_9 : decode b_M_frame 9 = .ok (.ifCond .lt 94, 3) := by decide +kernel
theorem d_M_frame_12 : decode b_M_frame 12 = .ok (.iconst 0, 1) := by decide +kernel
theorem d_M_frame_13 : decode b_M_frame 13 = .ok (.istore_n 3, 1) := by decide +kernel
theorem d_M_frame_14 : decode b_M_frame 14 = .ok (.iconst 0, 1) := by decide +kernel
theorem d_M_frame_15 : decode b_M_frame 15 = .ok (.istore 4, 2) := by decide +kernel
theorem d_M_frame_17 : decode b_M_frame 17 = .ok (.iload 4, 2) := by decide +kernel
theorem d_M_frame_19 : decode b_M_frame 19 = .ok (.bipush 8, 2) := by decide +kernel
theorem d_M_frame_21 : decode b_M_frame 21 = .ok (.if_icmp .ge 43, 3) := by decide +kernel
theorem d_M_frame_24 : decode b_M_frame 24 = .ok (.iload_n 3, 1) := by decide +kernel
theorem d_M_frame_25 : decode b_M_frame 25 = .ok (.aload_n 0, 1) := by decide +kernel
theorem d_M_frame_26 : decode b_M_frame 26 = .ok (.getfield 29, 3) := by decide +kernel
theorem d_M_frame_29 : decode b_M_frame 29 = .ok (.iload 4, 2) := by decide +kernel
theorem d_M_frame_31 : decode b_M_frame 31 = .ok (.baload, 1) := by decide +kernel
theorem d_M_frame_32 : decode b_M_frame 32 = .ok (.ifCond .eq 23, 3) := by decide +kernel
theorem d_M_frame_35 : decode b_M_frame 35 = .ok (.aload_n 0, 1) := by decide +kernel
theorem d_M_frame_36 : decode b_M_frame 36 = .ok (.getfield 35, 3) := by decide +kernel
theorem d_M_frame_39 : decode b_M_frame 39 = .ok (.iload 4, 2) := by decide +kernel
theorem d_M_frame_41 : decode b_M_frame 41 = .ok (.iaload, 1) := by decide +kernel
theorem d_M_frame_42 : decode b_M_frame 42 = .ok (.aload_n 0, 1) := by decide +kernel
theorem d_M_frame_43 : decode b_M_frame 43 = .ok (.getfield 35, 3) := by decide +kernel
theorem d_M_frame_46 : decode b_M_frame 46 = .ok (.iload_n 2, 1) := by decide +kernel
theorem d_M_frame_47 : decode b_M_frame 47 = .ok (.iaload, 1) := by decide +kernel
theorem d_M_frame_48 : decode b_M_frame 48 = .ok (.if_icmp .le 7, 3) := by decide +kernel
theorem d_M_frame_51 : decode b_M_frame 51 = .ok (.iconst 1, 1) := by decide +kernel
theorem d_M_frame_52 : decode b_M_frame 52 = .ok (.goto 4, 3) := by decide +kernel
theorem d_M_frame_55 : decode b_M_frame 55 = .ok (.iconst 0, 1) := by decide +kernel
theorem d_M_frame_56 : decode b_M_frame 56 = .ok (.iadd, 1) := by decide +kernel
theorem d_M_frame_57 : decode b_M_frame 57 = .ok (.istore_n 3, 1) := by decide +kernel
theorem d_M_frame_58 : decode b_M_frame 58 = .ok (.iinc 4 1, 3) := by decide +kernel
theorem d_M_frame_61 : decode b_M_frame 61 = .ok (.goto (-44), 3) := by decide +kernel
theorem d_M_frame_64 : decode b_M_frame 64 = .ok (.aload_n 0, 1) := by decide +kernel
theorem d_M_frame_65 : decode b_M_frame 65 = .ok (.getfield 29, 3) := by decide +kernel
theorem d_M_frame_68 : decode b_M_frame 68 = .ok (.iload_n 2, 1) := by decide +kernel
theorem d_M_frame_69 : decode b_M_frame 69 = .ok (.baload, 1) := by decide +kernel
theorem d_M_frame_70 : decode b_M_frame 70 = .ok (.ifCond .eq 27, 3) := by decide +kernel
theorem d_M_frame_73 : decode b_M_frame 73 = .ok (.iload_n 3, 1) := by decide +kernel
theorem d_M_frame_74 : decode b_M_frame 74 = .ok (.iload_n 1, 1) := by decide +kernel
theorem d_M_frame_75 : decode b_M_frame 75 = .ok (.if_icmp .ne 22, 3) := by decide +kernel
theorem d_M_frame_78 : decode b_M_frame 78 = .ok (.iconst 2, 1) := by decide +kernel
theorem d_M_frame_79 : decode b_M_frame 79 = .ok (.iload_n 2, 1) := by decide +kernel
theorem d_M_frame_80 : decode b_M_frame 80 = .ok (.imul, 1) := by decide +kernel
theorem d_M_frame_81 : decode b_M_frame 81 = .ok (.aload_n 0, 1) := by decide +kernel
theorem d_M_frame_82 : decode b_M_frame 82 = .ok (.getfield 32, 3) := by decide +kernel
theorem d_M_frame_85 : decode b_M_frame 85 = .ok (.iload_n 2, 1) := by decide +kernel
theorem d_M_frame_86 : decode b_M_frame 86 = .ok (.baload, 1) := by decide +kernel
theorem d_M_frame_87 : decode b_M_frame 87 = .ok (.ifCond .eq 7, 3) := by decide +kernel
theorem d_M_frame_90 : decode b_M_frame 90 = .ok (.iconst 1, 1) := by decide +kernel
theorem d_M_frame_91 : decode b_M_frame 91 = .ok (.goto 4, 3) := by decide +kernel
theorem d_M_frame_94 : decode b_M_frame 94 = .ok (.iconst 0, 1) := by decide +kernel
theorem d_M_frame_95 : decode b_M_frame 95 = .ok (.iadd, 1) := by decide +kernel
theorem d_M_frame_96 : decode b_M_frame 96 = .ok (.ireturn, 1) := by decide +kernel
theorem d_M_frame_97 : decode b_M_frame 97 = .ok (.iinc 2 1, 3) := by decide +kernel
theorem d_M_frame_100 : decode b_M_frame 100 = .ok (.goto (-98), 3) := by decide +kernel
theorem d_M_frame_103 : decode b_M_frame 103 = .ok (.iconst (-1), 1) := by decide +kernel
theorem d_M_frame_104 : decode b_M_frame 104 = .ok (.ireturn, 1) := by decide +kernel
theorem d_M_page_0 : decode b_M_page 0 = .ok (.iload_n 1, 1) := by decide +kernel
theorem d_M_page_1 : decode b_M_page 1 = .ok (.invokestatic 255, 3) := by decide +kernel
theorem d_M_page_4 : decode b_M_page 4 = .ok (.ifCond .eq 11, 3) := by decide +kernel
theorem d_M_page_7 : decode b_M_page 7 = .ok (.aload_n 0, 1) := by decide +kernel
theorem d_M_page_8 : decode b_M_page 8 = .ok (.iload_n 1, 1) := by decide +kernel
theorem d_M_page_9 : decode b_M_page 9 = .ok (.invokevirtual 264, 3) := by decide +kernel
theorem d_M_page_12 : decode b_M_page 12 = .ok (.goto 4, 3) := by decide +kernel
theorem d_M_page_15 : decode b_M_page 15 = .ok (.iconst (-1), 1) := by decide +kernel
theorem d_M_page_16 : decode b_M_page 16 = .ok (.ireturn, 1) := by decide +kernel
