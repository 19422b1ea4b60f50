theorem d_Model_walk_17 : decode c_Model_walk 17 = .ok (.iastore, 1) := by decide +kernel
theorem d_Model_walk_18 : decode c_Model_walk 18 = .ok (.aload_n 0, 1) := by decide +kernel
theorem d_Model_walk_19 : decode c_Model_walk 19 = .ok (.getfield 71, 3) := by decide +kernel
theorem d_Model_walk_22 : decode c_Model_walk 22 = .ok (.iconst 0, 1) := by decide +kernel
theorem d_Model_walk_23 : decode c_Model_walk 23 = .ok (.iconst (-1), 1) := by decide +kernel
theorem d_Model_walk_24 : decode c_Model_walk 24 = .ok (.iastore, 1) := by decide +kernel
theorem d_Model_walk_25 : decode c_Model_walk 25 = .ok (.iload_n 2, 1) := by decide +kernel
theorem d_Model_walk_26 : decode c_Model_walk 26 = .ok (.ifCond .lt 256, 3) := by decide +kernel
theorem d_Model_walk_29 : decode c_Model_walk 29 = .ok (.aload_n 0, 1) := by decide +kernel
theorem d_Model_walk_30 : decode c_Model_walk 30 = .ok (.getfield 65, 3) := by decide +kernel
theorem d_Model_walk_33 : decode c_Model_walk 33 = .ok (.iload_n 2, 1) := by decide +kernel
theorem d_Model_walk_34 : decode c_Model_walk 34 = .ok (.iaload, 1) := by decide +kernel
theorem d_Model_walk_35 : decode c_Model_walk 35 = .ok (.istore 4, 2) := by decide +kernel
theorem d_Model_walk_37 : decode c_Model_walk 37 = .ok (.iload 4, 2) := by decide +kernel
theorem d_Model_walk_39 : decode c_Model_walk 39 = .ok (.iconst (-1), 1) := by decide +kernel
theorem d_Model_walk_40 : decode c_Model_walk 40 = .ok (.if_icmp .ne 23, 3) := by decide +kernel
theorem d_Model_walk_43 : decode c_Model_walk 43 = .ok (.iinc 2 (-1), 3) := by decide +kernel
theorem d_Model_walk_46 : decode c_Model_walk 46 = .ok (.iload_n 2, 1) := by decide +kernel
theorem d_Model_walk_47 : decode c_Model_walk 47 = .ok (.ifCond .lt 232, 3) := by decide +kernel
theorem d_Model_walk_50 : decode c_Model_walk 50 = .ok (.aload_n 0, 1) := by decide +kernel
theorem d_Model_walk_51 : decode c_Model_walk 51 = .ok (.getfield 68, 3) := by decide +kernel
theorem d_Model_walk_54 : decode c_Model_walk 54 = .ok (.iload_n 2, 1) := by decide +kernel
theorem d_Model_walk_55 : decode c_Model_walk 55 = .ok (.dup2, 1) := by decide +kernel
theorem d_Model_walk_56 : decode c_Model_walk 56 = .ok (.iaload, 1) := by decide +kernel
theorem d_Model_walk_57 : decode c_Model_walk 57 = .ok (.iconst 1, 1) := by decide +kernel
theorem d_Model_walk_58 : decode c_Model_walk 58 = .ok (.iadd, 1) := by decide +kernel
theorem d_Model_walk_59 : decode c_Model_walk 59 = .ok (.iastore, 1) := by decide +kernel
theorem d_Model_walk_60 : decode c_Model_walk 60 = .ok (.goto 219, 3) := by decide +kernel
theorem d_Model_walk_63 : decode c_Model_walk 63 = .ok (.bipush 20, 2) := by decide +kernel
theorem d_Model_walk_65 : decode c_Model_walk 65 = .ok (.iload_n 1, 1) := by decide +kernel
theorem d_Model_walk_66 : decode c_Model_walk 66 = .ok (.imul, 1) := by decide +kernel
theorem d_Model_walk_67 : decode c_Model_walk 67 = .ok (.iload 4, 2) := by decide +kernel
theorem d_Model_walk_69 : decode c_Model_walk 69 = .ok (.iadd, 1) := by decide +kernel
theorem d_Model_walk_70 : decode c_Model_walk 70 = .ok (.istore 5, 2) := by decide +kernel
theorem d_Model_walk_72 : decode c_Model_walk 72 = .ok (.iload_n 3, 1) := by decide +kernel
theorem d_Model_walk_73 : decode c_Model_walk 73 = .ok (.aload_n 0, 1) := by decide +kernel
theorem d_Model_walk_74 : decode c_Model_walk 74 = .ok (.getfield 106, 3) := by decide +kernel
theorem d_Model_walk_77 : decode c_Model_walk 77 = .ok (.iconst 1, 1) := by decide +kernel
theorem d_Model_walk_78 : decode c_Model_walk 78 = .ok (.isub, 1) := by decide +kernel
theorem d_Model_walk_79 : decode c_Model_walk 79 = .ok (.if_icmp .ge 39, 3) := by decide +kernel
theorem d_Model_walk_82 : decode c_Model_walk 82 = .ok (.aload_n 0, 1) := by decide +kernel
theorem d_Model_walk_83 : decode c_Model_walk 83 = .ok (.getfield 16, 3) := by decide +kernel
theorem d_Model_walk_86 : decode c_Model_walk 86 = .ok (.iload_n 3, 1) := by decide +kernel
theorem d_Model_walk_87 : decode c_Model_walk 87 = .ok (.iaload, 1) := by decide +kernel
theorem d_Model_walk_88 : decode c_Model_walk 88 = .ok (.aload_n 0, 1) := by decide +kernel
theorem d_Model_walk_89 : decode c_Model_walk 89 = .ok (.getfield 37, 3) := by decide +kernel
theorem d_Model_walk_92 : decode c_Model_walk 92 = .ok (.iload 5, 2) := by decide +kernel
theorem d_Model_walk_94 : decode c_Model_walk 94 = .ok (.iaload, 1) := by decide +kernel
theorem d_Model_walk_95 : decode c_Model_walk 95 = .ok (.if_icmp .ne 23, 3) := by decide +kernel
theorem d_Model_walk_98 : decode c_Model_walk 98 = .ok (.aload_n 0, 1) := by decide +kernel
theorem d_Model_walk_99 : decode c_Model_walk 99 = .ok (.getfield 68, 3) := by decide +kernel
theorem d_Model_walk_102 : decode c_Model_walk 102 = .ok (.iload_n 2, 1) := by decide +kernel
theorem d_Model_walk_103 : decode c_Model_walk 103 = .ok (.iaload, 1) := by decide +kernel
theorem d_Model_walk_104 : decode c_Model_walk 104 = .ok (.aload_n 0, 1) := by decide +kernel
theorem d_Model_walk_105 : decode c_Model_walk 105 = .ok (.getfield 43, 3) := by decide +kernel
theorem d_Model_walk_108 : decode c_Model_walk 108 = .ok (.iload 5, 2) := by decide +kernel
theorem d_Model_walk_110 : decode c_Model_walk 110 = .ok (.iaload, 1) := by decide +kernel
theorem d_Model_walk_111 : decode c_Model_walk 111 = .ok (.if_icmp .ge 7, 3) := by decide +kernel
theorem d_Model_walk_114 : decode c_Model_walk 114 = .ok (.iconst 1, 1) := by decide +kernel
theorem d_Model_walk_115 : decode c_Model_walk 115 = .ok (.goto 4, 3) := by decide +kernel
theorem d_Model_walk_118 : decode c_Model_walk 118 = .ok (.iconst 0, 1) := by decide +kernel
theorem d_Model_walk_119 : decode c_Model_walk 119 = .ok (.istore 6, 2) := by decide +kernel
theorem d_Model_walk_121 : decode c_Model_walk 121 = .ok (.iload 6, 2) := by decide +kernel
theorem d_Model_walk_123 : decode c_Model_walk 123 = .ok (.ifCond .eq 109, 3) := by decide +kernel
theorem d_Model_walk_126 : decode c_Model_walk 126 = .ok (.aload_n 0, 1) := by decide +kernel
theorem d_Model_walk_127 : decode c_Model_walk 127 = .ok (.getfield 59, 3) := by decide +kernel
theorem d_Model_walk_130 : decode c_Model_walk 130 = .ok (.iload_n 3, 1) := by decide +kernel
theorem d_Model_walk_131 : decode c_Model_walk 131 = .ok (.iload 4, 2) := by decide +kernel
theorem d_Model_walk_133 : decode c_Model_walk 133 = .ok (.iastore, 1) := by decide +kernel
theorem d_Model_walk_134 : decode c_Model_walk 134 = .ok (.aload_n 0, 1) := by decide +kernel
theorem d_Model_walk_135 : decode c_Model_walk 135 = .ok (.getfield 62, 3) := by decide +kernel
theorem d_Model_walk_138 : decode c_Model_walk 138 = .ok (.iload_n 3, 1) := by decide +kernel
theorem d_Model_walk_139 : decode c_Model_walk 139 = .ok (.aload_n 0, 1) := by decide +kernel
theorem d_Model_walk_140 : decode c_Model_walk 140 = .ok (.getfield 71, 3) := by decide +kernel
theorem d_Model_walk_143 : decode c_Model_walk 143 = .ok (.iload_n 2, 1) := by decide +kernel
theorem d_Model_walk_144 : decode c_Model_walk 144 = .ok (.iaload, 1) := by decide +kernel
theorem d_Model_walk_145 : decode c_Model_walk 145 = .ok (.iastore, 1) := by decide +kernel
theorem d_Model_walk_146 : decode c_Model_walk 146 = .ok (.iinc 3 1, 3) := by decide +kernel
theorem d_Model_walk_149 : decode c_Model_walk 149 = .ok (.iload 4, 2) := by decide +kernel
theorem d_Model_walk_151 : decode c_Model_walk 151 = .ok (.iconst 1, 1) := by decide +kernel
theorem d_Model_walk_152 : decode c_Model_walk 152 = .ok (.iadd, 1) := by decide +kernel
theorem d_Model_walk_153 : decode c_Model_walk 153 = .ok (.aload_n 0, 1) := by decide +kernel
theorem d_Model_walk_154 : decode c_Model_walk 154 = .ok (.getfield 34, 3) := by decide +kernel
theorem d_Model_walk_157 : decode c_Model_walk 157 = .ok (.iload_n 1, 1) := by decide +kernel
theorem d_Model_walk_158 : decode c_Model_walk 158 = .ok (.iaload, 1) := by decide +kernel
theorem d_Model_walk_159 : decode c_Model_walk 159 = .ok (.if_icmp .ge 20, 3) := by decide +kernel
theorem d_Model_walk_162 : decode c_Model_walk 162 = .ok (.aload_n 0, 1) := by decide +kernel
theorem d_Model_walk_163 : decode c_Model_walk 163 = .ok (.getfield 46, 3) := by decide +kernel
theorem d_Model_walk_166 : decode c_Model_walk 166 = .ok (.iload 5, 2) := by decide +kernel
theorem d_Model_walk_168 : decode c_Model_walk 168 = .ok (.iconst 1, 1) := by decide +kernel
theorem d_Model_walk_169 : decode c_Model_walk 169 = .ok (.iadd, 1) := by decide +kernel
theorem d_Model_walk_170 : decode c_Model_walk 170 = .ok (.iaload, 1) := by decide +kernel
theorem d_Model_walk_171 : decode c_Model_walk 171 = .ok (.iload_n 2, 1) := by decide +kernel
theorem d_Model_walk_172 : decode c_Model_walk 172 = .ok (.if_icmp .le 7, 3) := by decide +kernel
theorem d_Model_walk_175 : decode c_Model_walk 175 = .ok (.iconst 1, 1) := by decide +kernel
theorem d_Model_walk_176 : decode c_Model_walk 176 = .ok (.goto 4, 3) := by decide +kernel
theorem d_Model_walk_179 : decode c_Model_walk 179 = .ok (.iconst 0, 1) := by decide +kernel
theorem d_Model_walk_180 : decode c_Model_walk 180 = .ok (.istore 7, 2) := by decide +kernel
theorem d_Model_walk_182 : decode c_Model_walk 182 = .ok (.iload 7, 2) := by decide +kernel
theorem d_Model_walk_184 : decode c_Model_walk 184 = .ok (.ifCond .eq 35, 3) := by decide +kernel
theorem d_Model_walk_187 : decode c_Model_walk 187 = .ok (.iinc 2 1, 3) := by decide +kernel
theorem d_Model_walk_190 : decode c_Model_walk 190 = .ok (.aload_n 0, 1) := by decide +kernel
theorem d_Model_walk_191 : decode c_Model_walk 191 = .ok (.getfield 65, 3) := by decide +kernel
theorem d_Model_walk_194 : decode c_Model_walk 194 = .ok (.iload_n 2, 1) := by decide +kernel
theorem d_Model_walk_195 : decode c_Model_walk 195 = .ok (.iload 4, 2) := by decide +kernel
theorem d_Model_walk_197 : decode c_Model_walk 197 = .ok (.iconst 1, 1) := by decide +kernel
theorem d_Model_walk_198 : decode c_Model_walk 198 = .ok (.iadd, 1) := by decide +kernel
theorem d_Model_walk_199 : decode c_Model_walk 199 = .ok (.iastore, 1) := by decide +kernel
theorem d_Model_walk_200 : decode c_Model_walk 200 = .ok (.aload_n 0, 1) := by decide +kernel
theorem d_Model_walk_201 : decode c_Model_walk 201 = .ok (.getfield 68, 3) := by decide +kernel
theorem d_Model_walk_204 : decode c_Model_walk 204 = .ok (.iload_n 2, 1) := by decide +kernel
theorem d_Model_walk_205 : decode c_Model_walk 205 = .ok (.iconst 0, 1) := by decide +kernel
theorem d_Model_walk_206 : decode c_Model_walk 206 = .ok (.iastore, 1) := by decide +kernel
theorem d_Model_walk_207 : decode c_Model_walk 207 = .ok (.aload_n 0, 1) := by decide +kernel
theorem d_Model_walk_208 : decode c_Model_walk 208 = .ok (.getfield 71, 3) := by decide +kernel
theorem d_Model_walk_211 : decode c_Model_walk 211 = .ok (.iload_n 2, 1) := by decide +kernel
theorem d_Model_walk_212 : decode c_Model_walk 212 = .ok (.iload_n 3, 1) := by decide +kernel
theorem d_Model_walk_213 : decode c_Model_walk 213 = .ok (.iconst 1, 1) := by decide +kernel
theorem d_Model_walk_214 : decode c_Model_walk 214 = .ok (.isub, 1) := by decide +kernel
theorem d_Model_walk_215 : decode c_Model_walk 215 = .ok (.iastore, 1) := by decide +kernel
theorem d_Model_walk_216 : decode c_Model_walk 216 = .ok (.goto 13, 3) := by decide +kernel
theorem d_Model_walk_219 : decode c_Model_walk 219 = .ok (.aload_n 0, 1) := by decide +kernel
theorem d_Model_walk_220 : decode c_Model_walk 220 = .ok (.getfield 68, 3) := by decide +kernel
theorem d_Model_walk_223 : decode c_Model_walk 223 = .ok (.iload_n 2, 1) := by decide +kernel
theorem d_Model_walk_224 : decode c_Model_walk 224 = .ok (.dup2, 1) := by decide +kernel
theorem d_Model_walk_225 : decode c_Model_walk 225 = .ok (.iaload, 1) := by decide +kernel
theorem d_Model_walk_226 : decode c_Model_walk 226 = .ok (.iconst 1, 1) := by decide +kernel
theorem d_Model_walk_227 : decode c_Model_walk 227 = .ok (.iadd, 1) := by decide +kernel
theorem d_Model_walk_228 : decode c_Model_walk 228 = .ok (.iastore, 1) := by decide +kernel
theorem d_Model_walk_229 : decode c_Model_walk 229 = .ok (.goto 50, 3) := by decide +kernel
theorem d_Model_walk_232 : decode c_Model_walk 232 = .ok (.aload_n 0, 1) := by decide +kernel
theorem d_Model_walk_233 : decode c_Model_walk 233 = .ok (.getfield 68, 3) := by decide +kernel
theorem d_Model_walk_236 : decode c_Model_walk 236 = .ok (.iload_n 2, 1) := by decide +kernel
theorem d_Model_walk_237 : decode c_Model_walk 237 = .ok (.iaload, 1) := by decide +kernel
theorem d_Model_walk_238 : decode c_Model_walk 238 = .ok (.aload_n 0, 1) := by decide +kernel
theorem d_Model_walk_239 : decode c_Model_walk 239 = .ok (.getfield 40, 3) := by decide +kernel
theorem d_Model_walk_242 : decode c_Model_walk 242 = .ok (.iload 5, 2) := by decide +kernel
theorem d_Model_walk_244 : decode c_Model_walk 244 = .ok (.iaload, 1) := by decide +kernel
theorem d_Model_walk_245 : decode c_Model_walk 245 = .ok (.if_icmp .ge 13, 3) := by decide +kernel
theorem d_Model_walk_248 : decode c_Model_walk 248 = .ok (.aload_n 0, 1) := by decide +kernel
theorem d_Model_walk_249 : decode c_Model_walk 249 = .ok (.bipush 7, 2) := by decide +kernel
theorem d_Model_walk_251 : decode c_Model_walk 251 = .ok (.iload_n 3, 1) := by decide +kernel
theorem d_Model_walk_252 : decode c_Model_walk 252 = .ok (.iload 4, 2) := by decide +kernel
theorem d_Model_walk_254 : decode c_Model_walk 254 = .ok (.invokevirtual 179, 3) := by decide +kernel
theorem d_Model_walk_257 : decode c_Model_walk 257 = .ok (.ireturn, 1) := by decide +kernel
theorem d_Model_walk_258 : decode c_Model_walk 258 = .ok (.aload_n 0, 1) := by decide +kernel
theorem d_Model_walk_259 : decode c_Model_walk 259 = .ok (.getfield 65, 3) := by decide +kernel
theorem d_Model_walk_262 : decode c_Model_walk 262 = .ok (.iload_n 2, 1) := by decide +kernel
theorem d_Model_walk_263 : decode c_Model_walk 263 = .ok (.aload_n 0, 1) := by decide +kernel
theorem d_Model_walk_264 : decode c_Model_walk 264 = .ok (.iload_n 1, 1) := by decide +kernel
theorem d_Model_walk_265 : decode c_Model_walk 265 = .ok (.iload 4, 2) := by decide +kernel
theorem d_Model_walk_267 : decode c_Model_walk 267 = .ok (.iload_n 2, 1) := by decide +kernel
theorem d_Model_walk_268 : decode c_Model_walk 268 = .ok (.invokevirtual 182, 3) := by decide +kernel
theorem d_Model_walk_271 : decode c_Model_walk 271 = .ok (.iastore, 1) := by decide +kernel
theorem d_Model_walk_272 : decode c_Model_walk 272 = .ok (.aload_n 0, 1) := by decide +kernel
theorem d_Model_walk_273 : decode c_Model_walk 273 = .ok (.getfield 68, 3) := by decide +kernel
theorem d_Model_walk_276 : decode c_Model_walk 276 = .ok (.iload_n 2, 1) := by decide +kernel
theorem d_Model_walk_277 : decode c_Model_walk 277 = .ok (.iconst 0, 1) := by decide +kernel
theorem d_Model_walk_278 : decode c_Model_walk 278 = .ok (.iastore, 1) := by decide +kernel
theorem d_Model_walk_279 : decode c_Model_walk 279 = .ok (.goto (-254), 3) := by decide +kernel
theorem d_Model_walk_282 : decode c_Model_walk 282 = .ok (.iload_n 3, 1) := by decide +kernel
theorem d_Model_walk_283 : decode c_Model_walk 283 = .ok (.aload_n 0, 1) := by decide +kernel
theorem d_Model_walk_284 : decode c_Model_walk 284 = .ok (.getfield 106, 3) := by decide +kernel
theorem d_Model_walk_287 : decode c_Model_walk 287 = .ok (.iconst 1, 1) := by decide +kernel
theorem d_Model_walk_288 : decode c_Model_walk 288 = .ok (.isub, 1) := by decide +kernel
theorem d_Model_walk_289 : decode c_Model_walk 289 = .ok (.if_icmp .ge 14, 3) := by decide +kernel
theorem d_Model_walk_292 : decode c_Model_walk 292 = .ok (.aload_n 0, 1) := by decide +kernel
theorem d_Model_walk_293 : decode c_Model_walk 293 = .ok (.bipush 8, 2) := by decide +kernel
theorem d_Model_walk_295 : decode c_Model_walk 295 = .ok (.iload_n 3, 1) := by decide +kernel
theorem d_Model_walk_296 : decode c_Model_walk 296 = .ok (.iconst (-1), 1) := by decide +kernel
theorem d_Model_walk_297 : decode c_Model_walk 297 = .ok (.invokevirtual 179, 3) := by decide +kernel
theorem d_Model_walk_300 : decode c_Model_walk 300 = .ok (.goto 4, 3) := by decide +kernel
theorem d_Model_walk_303 : decode c_Model_walk 303 = .ok (.iconst 0, 1) := by decide +kernel
theorem d_Model_walk_304 : decode c_Model_walk 304 = .ok (.ireturn, 1) := by decide +kernel
theorem d_Model_checked_0 : decode c_Model_checked 0 = .ok (.aload_n 0, 1) := by decide +kernel
theorem d_Model_checked_1 : decode c_Model_checked 1 = .ok (.getfield 16, 3) := by decide +kernel
theorem d_Model_checked_4 : decode c_Model_checked 4 = .ok (.iconst 0, 1) := by decide +kernel
theorem d_Model_checked_5 : decode c_Model_checked 5 = .ok (.iaload, 1) := by decide +kernel
theorem d_Model_checked_6 : decode c_Model_checked 6 = .ok (.ldc 185, 2) := by decide +kernel
theorem d_Model_checked_8 : decode c_Model_checked 8 = .ok (.if_icmp .eq 5, 3) := by decide +kernel
theorem d_Model_checked_11 : decode c_Model_checked 11 = .ok (.iconst 1, 1) := by decide +kernel
theorem d_Model_checked_12 : decode c_Model_checked 12 = .ok (.ireturn, 1) := by decide +kernel
theorem d_Model_checked_13 : decode c_Model_checked 13 = .ok (.aload_n 0, 1) := by decide +kernel
theorem d_Model_checked_14 : decode c_Model_checked 14 = .ok (.getfield 106, 3) := by decide +kernel
theorem d_Model_checked_17 : decode c_Model_checked 17 = .ok (.iconst 1, 1) := by decide +kernel
theorem d_Model_checked_18 : decode c_Model_checked 18 = .ok (.isub, 1) := by decide +kernel
theorem d_Model_checked_19 : decode c_Model_checked 19 = .ok (.istore_n 1, 1) := by decide +kernel
theorem d_Model_checked_20 : decode c_Model_checked 20 = .ok (.iload_n 1, 1) := by decide +kernel
theorem d_Model_checked_21 : decode c_Model_checked 21 = .ok (.ifCond .eq 14, 3) := by decide +kernel
theorem d_Model_checked_24 : decode c_Model_checked 24 = .ok (.aload_n 0, 1) := by decide +kernel
theorem d_Model_checked_25 : decode c_Model_checked 25 = .ok (.getfield 16, 3) := by decide +kernel
theorem d_Model_checked_28 : decode c_Model_checked 28 = .ok (.iload_n 1, 1) := by decide +kernel
theorem d_Model_checked_29 : decode c_Model_checked 29 = .ok (.iaload, 1) := by decide +kernel
theorem d_Model_checked_30 : decode c_Model_checked 30 = .ok (.ldc 186, 2) := by decide +kernel
theorem d_Model_checked_32 : decode c_Model_checked 32 = .ok (.if_icmp .eq 5, 3) := by decide +kernel
theorem d_Model_checked_35 : decode c_Model_checked 35 = .ok (.iconst 2, 1) := by decide +kernel
theorem d_Model_checked_36 : decode c_Model_checked 36 = .ok (.ireturn, 1) := by decide +kernel
theorem d_Model_checked_37 : decode c_Model_checked 37 = .ok (.aload_n 0, 1) := by decide +kernel
theorem d_Model_checked_38 : decode c_Model_checked 38 = .ok (.aload_n 0, 1) := by decide +kernel
theorem d_Model_checked_39 : decode c_Model_checked 39 = .ok (.iload_n 1, 1) := by decide +kernel
theorem d_Model_checked_40 : decode c_Model_checked 40 = .ok (.iconst 0, 1) := by decide +kernel
theorem d_Model_checked_41 : decode c_Model_checked 41 = .ok (.iconst 0, 1) := by decide +kernel
theorem d_Model_checked_42 : decode c_Model_checked 42 = .ok (.iconst 0, 1) := by decide +kernel
theorem d_Model_checked_43 : decode c_Model_checked 43 = .ok (.invokevirtual 169, 3) := by decide +kernel
theorem d_Model_checked_46 : decode c_Model_checked 46 = .ok (.invokevirtual 187, 3) := by decide +kernel
theorem d_Model_checked_49 : decode c_Model_checked 49 = .ok (.ifCond .ne 5, 3) := by decide +kernel
theorem d_Model_checked_52 : decode c_Model_checked 52 = .ok (.iconst 3, 1) := by decide +kernel
theorem d_Model_checked_53 : decode c_Model_checked 53 = .ok (.ireturn, 1) := by decide +kernel
theorem d_Model_checked_54 : decode c_Model_checked 54 = .ok (.aload_n 0, 1) := by decide +kernel
theorem d_Model_checked_55 : decode c_Model_checked 55 = .ok (.aload_n 0, 1) := by decide +kernel
theorem d_Model_checked_56 : decode c_Model_checked 56 = .ok (.iload_n 1, 1) := by decide +kernel
theorem d_Model_checked_57 : decode c_Model_checked 57 = .ok (.iconst 1, 1) := by decide +kernel
theorem d_Model_checked_58 : decode c_Model_checked 58 = .ok (.iconst 0, 1) := by decide +kernel
theorem d_Model_checked_59 : decode c_Model_checked 59 = .ok (.iconst 0, 1) := by decide +kernel
theorem d_Model_checked_60 : decode c_Model_checked 60 = .ok (.invokevirtual 169, 3) := by decide +kernel
theorem d_Model_checked_63 : decode c_Model_checked 63 = .ok (.aload_n 0, 1) := by decide +kernel
theorem d_Model_checked_64 : decode c_Model_checked 64 = .ok (.iconst 0, 1) := by decide +kernel
theorem d_Model_checked_65 : decode c_Model_checked 65 = .ok (.iconst 0, 1) := by decide +kernel
theorem d_Model_checked_66 : decode c_Model_checked 66 = .ok (.iconst 0, 1) := by decide +kernel
theorem d_Model_checked_67 : decode c_Model_checked 67 = .ok (.iconst 0, 1) := by decide +kernel
theorem d_Model_checked_68 : decode c_Model_checked 68 = .ok (.invokevirtual 169, 3) := by decide +kernel
theorem d_Model_checked_71 : decode c_Model_checked 71 = .ok (.invokevirtual 190, 3) := by decide +kernel
theorem d_Model_checked_74 : decode c_Model_checked 74 = .ok (.ifCond .ne 5, 3) := by decide +kernel
theorem d_Model_checked_77 : decode c_Model_checked 77 = .ok (.iconst 4, 1) := by decide +kernel
theorem d_Model_checked_78 : decode c_Model_checked 78 = .ok (.ireturn, 1) := by decide +kernel
theorem d_Model_checked_79 : decode c_Model_checked 79 = .ok (.aload_n 0, 1) := by decide +kernel
theorem d_Model_checked_80 : decode c_Model_checked 80 = .ok (.invokevirtual 194, 3) := by decide +kernel
theorem d_Model_checked_83 : decode c_Model_checked 83 = .ok (.istore_n 2, 1) := by decide +kernel
theorem d_Model_checked_84 : decode c_Model_checked 84 = .ok (.iload_n 2, 1) := by decide +kernel
theorem d_Model_checked_85 : decode c_Model_checked 85 = .ok (.iconst (-1), 1) := by decide +kernel
theorem d_Model_checked_86 : decode c_Model_checked 86 = .ok (.if_icmp .ne 5, 3) := by decide +kernel
theorem d_Model_checked_89 : decode c_Model_checked 89 = .ok (.iconst 5, 1) := by decide +kernel
theorem d_Model_checked_90 : decode c_Model_checked 90 = .ok (.ireturn, 1) := by decide +kernel
theorem d_Model_checked_91 : decode c_Model_checked 91 = .ok (.aload_n 0, 1) := by decide +kernel
theorem d_Model_checked_92 : decode c_Model_checked 92 = .ok (.iload_n 2, 1) := by decide +kernel
theorem d_Model_checked_93 : decode c_Model_checked 93 = .ok (.invokevirtual 197, 3) := by decide +kernel
theorem d_Model_checked_96 : decode c_Model_checked 96 = .ok (.istore_n 3, 1) := by decide +kernel
theorem d_Model_checked_97 : decode c_Model_checked 97 = .ok (.iload_n 3, 1) := by decide +kernel
theorem d_Model_checked_98 : decode c_Model_checked 98 = .ok (.iconst (-1), 1) := by decide +kernel
theorem d_Model_checked_99 : decode c_Model_checked 99 = .ok (.if_icmp .eq 14, 3) := by decide +kernel
theorem d_Model_checked_102 : decode c_Model_checked 102 = .ok (.aload_n 0, 1) := by decide +kernel
theorem d_Model_checked_103 : decode c_Model_checked 103 = .ok (.bipush 6, 2) := by decide +kernel
theorem d_Model_checked_105 : decode c_Model_checked 105 = .ok (.iload_n 3, 1) := by decide +kernel
theorem d_Model_checked_106 : decode c_Model_checked 106 = .ok (.iconst (-1), 1) := by decide +kernel
theorem d_Model_checked_107 : decode c_Model_checked 107 = .ok (.invokevirtual 179, 3) := by decide +kernel
theorem d_Model_checked_110 : decode c_Model_checked 110 = .ok (.goto 8, 3) := by decide +kernel
theorem d_Model_checked_113 : decode c_Model_checked 113 = .ok (.aload_n 0, 1) := by decide +kernel
theorem d_Model_checked_114 : decode c_Model_checked 114 = .ok (.iload_n 2, 1) := by decide +kernel
theorem d_Model_checked_115 : decode c_Model_checked 115 = .ok (.invokevirtual 200, 3) := by decide +kernel
theorem d_Model_checked_118 : decode c_Model_checked 118 = .ok (.ireturn, 1) := by decide +kernel
theorem d_Model_check_0 : decode c_Model_check 0 = .ok (.aload_n 0, 1) := by decide +kernel
theorem d_Model_check_1 : decode c_Model_check 1 = .ok (.aload_n 0, 1) := by decide +kernel
theorem d_Model_check_2 : decode c_Model_check 2 = .ok (.getfield 147, 3) := by decide +kernel
theorem d_Model_check_5 : decode c_Model_check 5 = .ok (.ifCond .eq 7, 3) := by decide +kernel
theorem d_Model_check_8 : decode c_Model_check 8 = .ok (.iconst 0, 1) := by decide +kernel
theorem d_Model_check_9 : decode c_Model_check 9 = .ok (.goto 4, 3) := by decide +kernel
theorem d_Model_check_12 : decode c_Model_check 12 = .ok (.iconst 1, 1) := by decide +kernel
theorem d_Model_check_13 : decode c_Model_check 13 = .ok (.putfield 80, 3) := by decide +kernel
theorem d_Model_check_16 : decode c_Model_check 16 = .ok (.aload_n 0, 1) := by decide +kernel
theorem d_Model_check_17 : decode c_Model_check 17 = .ok (.getfield 80, 3) := by decide +kernel
theorem d_Model_check_20 : decode c_Model_check 20 = .ok (.ifCond .eq 5, 3) := by decide +kernel
theorem d_Model_check_23 : decode c_Model_check 23 = .ok (.iconst 0, 1) := by decide +kernel
theorem d_Model_check_24 : decode c_Model_check 24 = .ok (.ireturn, 1) := by decide +kernel
theorem d_Model_check_25 : decode c_Model_check 25 = .ok (.iconst 0, 1) := by decide +kernel
theorem d_Model_check_26 : decode c_Model_check 26 = .ok (.istore_n 1, 1) := by decide +kernel
theorem d_Model_check_27 : decode c_Model_check 27 = .ok (.iload_n 1, 1) := by decide +kernel
theorem d_Model_check_28 : decode c_Model_check 28 = .ok (.aload_n 0, 1) := by decide +kernel
theorem d_Model_check_29 : decode c_Model_check 29 = .ok (.getfield 106, 3) := by decide +kernel
theorem d_Model_check_32 : decode c_Model_check 32 = .ok (.if_icmp .ge 14, 3) := by decide +kernel
theorem d_Model_check_35 : decode c_Model_check 35 = .ok (.aload_n 0, 1) := by decide +kernel
theorem d_Model_check_36 : decode c_Model_check 36 = .ok (.iload_n 1, 1) := by decide +kernel
theorem d_Model_check_37 : decode c_Model_check 37 = .ok (.invokevirtual 151, 3) := by decide +kernel
theorem d_Model_check_40 : decode c_Model_check 40 = .ok (.iinc 1 1, 3) := by decide +kernel
theorem d_Model_check_43 : decode c_Model_check 43 = .ok (.goto (-16), 3) := by decide +kernel
theorem d_Model_check_46 : decode c_Model_check 46 = .ok (.aload_n 0, 1) := by decide +kernel
theorem d_Model_check_47 : decode c_Model_check 47 = .ok (.iconst (-1), 1) := by decide +kernel
theorem d_Model_check_48 : decode c_Model_check 48 = .ok (.putfield 53, 3) := by decide +kernel
theorem d_Model_check_51 : decode c_Model_check 51 = .ok (.aload_n 0, 1) := by decide +kernel
theorem d_Model_check_52 : decode c_Model_check 52 = .ok (.iconst (-1), 1) := by decide +kernel
theorem d_Model_check_53 : decode c_Model_check 53 = .ok (.putfield 56, 3) := by decide +kernel
theorem d_Model_check_56 : decode c_Model_check 56 = .ok (.aload_n 0, 1) := by decide +kernel
theorem d_Model_check_57 : decode c_Model_check 57 = .ok (.aload_n 0, 1) := by decide +kernel
theorem d_Model_check_58 : decode c_Model_check 58 = .ok (.invokevirtual 203, 3) := by decide +kernel
theorem d_Model_check_61 : decode c_Model_check 61 = .ok (.putfield 49, 3) := by decide +kernel
theorem d_Model_check_64 : decode c_Model_check 64 = .ok (.aload_n 0, 1) := by decide +kernel
theorem d_Model_check_65 : decode c_Model_check 65 = .ok (.getfield 49, 3) := by decide +kernel
theorem d_Model_check_68 : decode c_Model_check 68 = .ok (.ireturn, 1) := by decide +kernel
theorem d_Model_fault_0 : decode c_Model_fault 0 = .ok (.aload_n 0, 1) := by decide +kernel
theorem d_Model_fault_1 : decode c_Model_fault 1 = .ok (.iconst 0, 1) := by decide +kernel
theorem d_Model_fault_2 : decode c_Model_fault 2 = .ok (.putfield 80, 3) := by decide +kernel
theorem d_Model_fault_5 : decode c_Model_fault 5 = .ok (.iload_n 1, 1) := by decide +kernel
theorem d_Model_fault_6 : decode c_Model_fault 6 = .ok (.ifCond .ne 10, 3) := by decide +kernel
theorem d_Model_fault_9 : decode c_Model_fault 9 = .ok (.aload_n 0, 1) := by decide +kernel
theorem d_Model_fault_10 : decode c_Model_fault 10 = .ok (.getfield 49, 3) := by decide +kernel
theorem d_Model_fault_13 : decode c_Model_fault 13 = .ok (.goto 28, 3) := by decide +kernel
theorem d_Model_fault_16 : decode c_Model_fault 16 = .ok (.iload_n 1, 1) := by decide +kernel
theorem d_Model_fault_17 : decode c_Model_fault 17 = .ok (.iconst 1, 1) := by decide +kernel
theorem d_Model_fault_18 : decode c_Model_fault 18 = .ok (.if_icmp .ne 10, 3) := by decide +kernel
theorem d_Model_fault_21 : decode c_Model_fault 21 = .ok (.aload_n 0, 1) := by decide +kernel
theorem d_Model_fault_22 : decode c_Model_fault 22 = .ok (.getfield 53, 3) := by decide +kernel
theorem d_Model_fault_25 : decode c_Model_fault 25 = .ok (.goto 16, 3) := by decide +kernel
theorem d_Model_fault_28 : decode c_Model_fault 28 = .ok (.iload_n 1, 1) := by decide +kernel
theorem d_Model_fault_29 : decode c_Model_fault 29 = .ok (.iconst 2, 1) := by decide +kernel
theorem d_Model_fault_30 : decode c_Model_fault 30 = .ok (.if_icmp .ne 10, 3) := by decide +kernel
theorem d_Model_fault_33 : decode c_Model_fault 33 = .ok (.aload_n 0, 1) := by decide +kernel
theorem d_Model_fault_34 : decode c_Model_fault 34 = .ok (.getfield 56, 3) := by decide +kernel
theorem d_Model_fault_37 : decode c_Model_fault 37 = .ok (.goto 4, 3) := by decide +kernel
theorem d_Model_fault_40 : decode c_Model_fault 40 = .ok (.iconst (-1), 1) := by decide +kernel
theorem d_Model_fault_41 : decode c_Model_fault 41 = .ok (.ireturn, 1) := by decide +kernel
theorem d_Model_put_0 : decode c_Model_put 0 = .ok (.aload_n 0, 1) := by decide +kernel
theorem d_Model_put_1 : decode c_Model_put 1 = .ok (.getfield 74, 3) := by decide +kernel
theorem d_Model_put_4 : decode c_Model_put 4 = .ok (.aload_n 0, 1) := by decide +kernel
theorem d_Model_put_5 : decode c_Model_put 5 = .ok (.getfield 206, 3) := by decide +kernel
theorem d_Model_put_8 : decode c_Model_put 8 = .ok (.iload_n 1, 1) := by decide +kernel
theorem d_Model_put_9 : decode c_Model_put 9 = .ok (.iastore, 1) := by decide +kernel
theorem d_Model_put_10 : decode c_Model_put 10 = .ok (.aload_n 0, 1) := by decide +kernel
theorem d_Model_put_11 : decode c_Model_put 11 = .ok (.dup, 1) := by decide +kernel
theorem d_Model_put_12 : decode c_Model_put 12 = .ok (.getfield 206, 3) := by decide +kernel
theorem d_Model_put_15 : decode c_Model_put 15 = .ok (.iconst 1, 1) := by decide +kernel
theorem d_Model_put_16 : decode c_Model_put 16 = .ok (.iadd, 1) := by decide +kernel
theorem d_Model_put_17 : decode c_Model_put 17 = .ok (.putfield 206, 3) := by decide +kernel
theorem d_Model_put_20 : decode c_Model_put 20 = .ok (.return_, 1) := by decide +kernel
theorem d_Model_isService_0 : decode c_Model_isService 0 = .ok (.iconst 0, 1) := by decide +kernel
theorem d_Model_isService_1 : decode c_Model_isService 1 = .ok (.istore_n 2, 1) := by decide +kernel
theorem d_Model_isService_2 : decode c_Model_isService 2 = .ok (.iload_n 2, 1) := by decide +kernel
theorem d_Model_isService_3 : decode c_Model_isService 3 = .ok (.iconst 5, 1) := by decide +kernel
theorem d_Model_isService_4 : decode c_Model_isService 4 = .ok (.if_icmp .ge 21, 3) := by decide +kernel
theorem d_Model_isService_7 : decode c_Model_isService 7 = .ok (.aload_n 0, 1) := by decide +kernel
theorem d_Model_isService_8 : decode c_Model_isService 8 = .ok (.getfield 13, 3) := by decide +kernel
theorem d_Model_isService_11 : decode c_Model_isService 11 = .ok (.iload_n 2, 1) := by decide +kernel
theorem d_Model_isService_12 : decode c_Model_isService 12 = .ok (.iaload, 1) := by decide +kernel
theorem d_Model_isService_13 : decode c_Model_isService 13 = .ok (.iload_n 1, 1) := by decide +kernel
theorem d_Model_isService_14 : decode c_Model_isService 14 = .ok (.if_icmp .ne 5, 3) := by decide +kernel
theorem d_Model_isService_17 : decode c_Model_isService 17 = .ok (.iconst 1, 1) := by decide +kernel
theorem d_Model_isService_18 : decode c_Model_isService 18 = .ok (.ireturn, 1) := by decide +kernel
theorem d_Model_isService_19 : decode c_Model_isService 19 = .ok (.iinc 2 1, 3) := by decide +kernel
theorem d_Model_isService_22 : decode c_Model_isService 22 = .ok (.goto (-20), 3) := by decide +kernel
theorem d_Model_isService_25 : decode c_Model_isService 25 = .ok (.iconst 0, 1) := by decide +kernel
theorem d_Model_isService_26 : decode c_Model_isService 26 = .ok (.ireturn, 1) := by decide +kernel
theorem d_Model_fullComponents_0 : decode c_Model_fullComponents 0 = .ok (.aload_n 0, 1) := by decide +kernel
theorem d_Model_fullComponents_1 : decode c_Model_fullComponents 1 = .ok (.iload_n 1, 1) := by decide +kernel
theorem d_Model_fullComponents_2 : decode c_Model_fullComponents 2 = .ok (.iload_n 2, 1) := by decide +kernel
theorem d_Model_fullComponents_3 : decode c_Model_fullComponents 3 = .ok (.iload_n 3, 1) := by decide +kernel
theorem d_Model_fullComponents_4 : decode c_Model_fullComponents 4 = .ok (.invokevirtual 162, 3) := by decide +kernel
theorem d_Model_fullComponents_7 : decode c_Model_fullComponents 7 = .ok (.istore 4, 2) := by decide +kernel
theorem d_Model_fullComponents_9 : decode c_Model_fullComponents 9 = .ok (.iload 4, 2) := by decide +kernel
theorem d_Model_fullComponents_11 : decode c_Model_fullComponents 11 = .ok (.ifCond .le 27, 3) := by decide +kernel
theorem d_Model_fullComponents_14 : decode c_Model_fullComponents 14 = .ok (.aload_n 0, 1) := by decide +kernel
theorem d_Model_fullComponents_15 : decode c_Model_fullComponents 15 = .ok (.aload_n 0, 1) := by decide +kernel
theorem d_Model_fullComponents_16 : decode c_Model_fullComponents 16 = .ok (.iload_n 1, 1) := by decide +kernel
theorem d_Model_fullComponents_17 : decode c_Model_fullComponents 17 = .ok (.iload_n 2, 1) := by decide +kernel
theorem d_Model_fullComponents_18 : decode c_Model_fullComponents 18 = .ok (.iload_n 3, 1) := by decide +kernel
theorem d_Model_fullComponents_19 : decode c_Model_fullComponents 19 = .ok (.iload 4, 2) := by decide +kernel
theorem d_Model_fullComponents_21 : decode c_Model_fullComponents 21 = .ok (.iconst 1, 1) := by decide +kernel
theorem d_Model_fullComponents_22 : decode c_Model_fullComponents 22 = .ok (.isub, 1) := by decide +kernel
theorem d_Model_fullComponents_23 : decode c_Model_fullComponents 23 = .ok (.invokevirtual 169, 3) := by decide +kernel
theorem d_Model_fullComponents_26 : decode c_Model_fullComponents 26 = .ok (.invokevirtual 173, 3) := by decide +kernel
theorem d_Model_fullComponents_29 : decode c_Model_fullComponents 29 = .ok (.ifCond .ne 9, 3) := by decide +kernel
theorem d_Model_fullComponents_32 : decode c_Model_fullComponents 32 = .ok (.iinc 4 (-1), 3) := by decide +kernel
theorem d_Model_fullComponents_35 : decode c_Model_fullComponents 35 = .ok (.goto (-26), 3) := by decide +kernel
theorem d_Model_fullComponents_38 : decode c_Model_fullComponents 38 = .ok (.iload 4, 2) := by decide +kernel
theorem d_Model_fullComponents_40 : decode c_Model_fullComponents 40 = .ok (.ireturn, 1) := by decide +kernel
theorem d_Model_fullRepeats_0 : decode c_Model_fullRepeats 0 = .ok (.aload_n 0, 1) := by decide +kernel
theorem d_Model_fullRepeats_1 : decode c_Model_fullRepeats 1 = .ok (.iload_n 1, 1) := by decide +kernel
theorem d_Model_fullRepeats_2 : decode c_Model_fullRepeats 2 = .ok (.iload_n 2, 1) := by decide +kernel
theorem d_Model_fullRepeats_3 : decode c_Model_fullRepeats 3 = .ok (.invokevirtual 158, 3) := by decide +kernel
theorem d_Model_fullRepeats_6 : decode c_Model_fullRepeats 6 = .ok (.istore_n 3, 1) := by decide +kernel
theorem d_Model_fullRepeats_7 : decode c_Model_fullRepeats 7 = .ok (.iload_n 3, 1) := by decide +kernel
theorem d_Model_fullRepeats_8 : decode c_Model_fullRepeats 8 = .ok (.ifCond .le 21, 3) := by decide +kernel
theorem d_Model_fullRepeats_11 : decode c_Model_fullRepeats 11 = .ok (.aload_n 0, 1) := by decide +kernel
theorem d_Model_fullRepeats_12 : decode c_Model_fullRepeats 12 = .ok (.iload_n 1, 1) := by decide +kernel
theorem d_Model_fullRepeats_13 : decode c_Model_fullRepeats 13 = .ok (.iload_n 2, 1) := by decide +kernel
theorem d_Model_fullRepeats_14 : decode c_Model_fullRepeats 14 = .ok (.iload_n 3, 1) := by decide +kernel
theorem d_Model_fullRepeats_15 : decode c_Model_fullRepeats 15 = .ok (.iconst 1, 1) := by decide +kernel
theorem d_Model_fullRepeats_16 : decode c_Model_fullRepeats 16 = .ok (.isub, 1) := by decide +kernel
theorem d_Model_fullRepeats_17 : decode c_Model_fullRepeats 17 = .ok (.invokevirtual 209, 3) := by decide +kernel
theorem d_Model_fullRepeats_20 : decode c_Model_fullRepeats 20 = .ok (.ifCond .ne 9, 3) := by decide +kernel
theorem d_Model_fullRepeats_23 : decode c_Model_fullRepeats 23 = .ok (.iinc 3 (-1), 3) := by decide +kernel
theorem d_Model_fullRepeats_26 : decode c_Model_fullRepeats 26 = .ok (.goto (-19), 3) := by decide +kernel
theorem d_Model_fullRepeats_29 : decode c_Model_fullRepeats 29 = .ok (.iload_n 3, 1) := by decide +kernel
theorem d_Model_fullRepeats_30 : decode c_Model_fullRepeats 30 = .ok (.ireturn, 1) := by decide +kernel
theorem d_Model_fullElements_0 : decode c_Model_fullElements 0 = .ok (.aload_n 0, 1) := by decide +kernel
theorem d_Model_fullElements_1 : decode c_Model_fullElements 1 = .ok (.iload_n 1, 1) := by decide +kernel
theorem d_Model_fullElements_2 : decode c_Model_fullElements 2 = .ok (.invokevirtual 154, 3) := by decide +kernel
theorem d_Model_fullElements_5 : decode c_Model_fullElements 5 = .ok (.istore_n 2, 1) := by decide +kernel
theorem d_Model_fullElements_6 : decode c_Model_fullElements 6 = .ok (.iload_n 2, 1) := by decide +kernel
theorem d_Model_fullElements_7 : decode c_Model_fullElements 7 = .ok (.ifCond .le 20, 3) := by decide +kernel
theorem d_Model_fullElements_10 : decode c_Model_fullElements 10 = .ok (.aload_n 0, 1) := by decide +kernel
theorem d_Model_fullElements_11 : decode c_Model_fullElements 11 = .ok (.iload_n 1, 1) := by decide +kernel
theorem d_Model_fullElements_12 : decode c_Model_fullElements 12 = .ok (.iload_n 2, 1) := by decide +kernel
theorem d_Model_fullElements_13 : decode c_Model_fullElements 13 = .ok (.iconst 1, 1) := by decide +kernel
theorem d_Model_fullElements_14 : decode c_Model_fullElements 14 = .ok (.isub, 1) := by decide +kernel
theorem d_Model_fullElements_15 : decode c_Model_fullElements 15 = .ok (.invokevirtual 212, 3) := by decide +kernel
theorem d_Model_fullElements_18 : decode c_Model_fullElements 18 = .ok (.ifCond .ne 9, 3) := by decide +kernel
theorem d_Model_fullElements_21 : decode c_Model_fullElements 21 = .ok (.iinc 2 (-1), 3) := by decide +kernel
theorem d_Model_fullElements_24 : decode c_Model_fullElements 24 = .ok (.goto (-18), 3) := by decide +kernel
theorem d_Model_fullElements_27 : decode c_Model_fullElements 27 = .ok (.iload_n 2, 1) := by decide +kernel
theorem d_Model_fullElements_28 : decode c_Model_fullElements 28 = .ok (.ireturn, 1) := by decide +kernel
theorem d_Model_putRepeat_0 : decode c_Model_putRepeat 0 = .ok (.aload_n 0, 1) := by decide +kernel
theorem d_Model_putRepeat_1 : decode c_Model_putRepeat 1 = .ok (.iload_n 1, 1) := by decide +kernel
theorem d_Model_putRepeat_2 : decode c_Model_putRepeat 2 = .ok (.iload_n 2, 1) := by decide +kernel
theorem d_Model_putRepeat_3 : decode c_Model_putRepeat 3 = .ok (.iload_n 3, 1) := by decide +kernel
theorem d_Model_putRepeat_4 : decode c_Model_putRepeat 4 = .ok (.invokevirtual 209, 3) := by decide +kernel
theorem d_Model_putRepeat_7 : decode c_Model_putRepeat 7 = .ok (.istore 4, 2) := by decide +kernel
theorem d_Model_putRepeat_9 : decode c_Model_putRepeat 9 = .ok (.iconst 0, 1) := by decide +kernel
theorem d_Model_putRepeat_10 : decode c_Model_putRepeat 10 = .ok (.istore 5, 2) := by decide +kernel
theorem d_Model_putRepeat_12 : decode c_Model_putRepeat 12 = .ok (.iload 5, 2) := by decide +kernel
theorem d_Model_putRepeat_14 : decode c_Model_putRepeat 14 = .ok (.iload 4, 2) := by decide +kernel
theorem d_Model_putRepeat_16 : decode c_Model_putRepeat 16 = .ok (.if_icmp .ge 99, 3) := by decide +kernel
theorem d_Model_putRepeat_19 : decode c_Model_putRepeat 19 = .ok (.iload 5, 2) := by decide +kernel
theorem d_Model_putRepeat_21 : decode c_Model_putRepeat 21 = .ok (.ifCond .le 13, 3) := by decide +kernel
theorem d_Model_putRepeat_24 : decode c_Model_putRepeat 24 = .ok (.aload_n 0, 1) := by decide +kernel
theorem d_Model_putRepeat_25 : decode c_Model_putRepeat 25 = .ok (.aload_n 0, 1) := by decide +kernel
theorem d_Model_putRepeat_26 : decode c_Model_putRepeat 26 = .ok (.getfield 13, 3) := by decide +kernel
theorem d_Model_putRepeat_29 : decode c_Model_putRepeat 29 = .ok (.iconst 0, 1) := by decide +kernel
theorem d_Model_putRepeat_30 : decode c_Model_putRepeat 30 = .ok (.iaload, 1) := by decide +kernel
theorem d_Model_putRepeat_31 : decode c_Model_putRepeat 31 = .ok (.invokevirtual 215, 3) := by decide +kernel
theorem d_Model_putRepeat_34 : decode c_Model_putRepeat 34 = .ok (.aload_n 0, 1) := by decide +kernel
theorem d_Model_putRepeat_35 : decode c_Model_putRepeat 35 = .ok (.iload_n 1, 1) := by decide +kernel
theorem d_Model_putRepeat_36 : decode c_Model_putRepeat 36 = .ok (.iload_n 2, 1) := by decide +kernel
theorem d_Model_putRepeat_37 : decode c_Model_putRepeat 37 = .ok (.iload_n 3, 1) := by decide +kernel
theorem d_Model_putRepeat_38 : decode c_Model_putRepeat 38 = .ok (.iload 5, 2) := by decide +kernel
theorem d_Model_putRepeat_40 : decode c_Model_putRepeat 40 = .ok (.invokevirtual 169, 3) := by decide +kernel
theorem d_Model_putRepeat_43 : decode c_Model_putRepeat 43 = .ok (.istore 6, 2) := by decide +kernel
theorem d_Model_putRepeat_45 : decode c_Model_putRepeat 45 = .ok (.aload_n 0, 1) := by decide +kernel
theorem d_Model_putRepeat_46 : decode c_Model_putRepeat 46 = .ok (.getfield 28, 3) := by decide +kernel
theorem d_Model_putRepeat_49 : decode c_Model_putRepeat 49 = .ok (.iload 6, 2) := by decide +kernel
theorem d_Model_putRepeat_51 : decode c_Model_putRepeat 51 = .ok (.iaload, 1) := by decide +kernel
theorem d_Model_putRepeat_52 : decode c_Model_putRepeat 52 = .ok (.istore 7, 2) := by decide +kernel
theorem d_Model_putRepeat_54 : decode c_Model_putRepeat 54 = .ok (.iload 7, 2) := by decide +kernel
theorem d_Model_putRepeat_56 : decode c_Model_putRepeat 56 = .ok (.aload_n 0, 1) := by decide +kernel
theorem d_Model_putRepeat_57 : decode c_Model_putRepeat 57 = .ok (.getfield 28, 3) := by decide +kernel
theorem d_Model_putRepeat_60 : decode c_Model_putRepeat 60 = .ok (.iload 6, 2) := by decide +kernel
theorem d_Model_putRepeat_62 : decode c_Model_putRepeat 62 = .ok (.iconst 1, 1) := by decide +kernel
theorem d_Model_putRepeat_63 : decode c_Model_putRepeat 63 = .ok (.iadd, 1) := by decide +kernel
theorem d_Model_putRepeat_64 : decode c_Model_putRepeat 64 = .ok (.iaload, 1) := by decide +kernel
theorem d_Model_putRepeat_65 : decode c_Model_putRepeat 65 = .ok (.if_icmp .ge 44, 3) := by decide +kernel
theorem d_Model_putRepeat_68 : decode c_Model_putRepeat 68 = .ok (.aload_n 0, 1) := by decide +kernel
theorem d_Model_putRepeat_69 : decode c_Model_putRepeat 69 = .ok (.aload_n 0, 1) := by decide +kernel
theorem d_Model_putRepeat_70 : decode c_Model_putRepeat 70 = .ok (.getfield 31, 3) := by decide +kernel
theorem d_Model_putRepeat_73 : decode c_Model_putRepeat 73 = .ok (.iload 7, 2) := by decide +kernel
theorem d_Model_putRepeat_75 : decode c_Model_putRepeat 75 = .ok (.iaload, 1) := by decide +kernel
theorem d_Model_putRepeat_76 : decode c_Model_putRepeat 76 = .ok (.invokevirtual 218, 3) := by decide +kernel
theorem d_Model_putRepeat_79 : decode c_Model_putRepeat 79 = .ok (.ifCond .eq 13, 3) := by decide +kernel
theorem d_Model_putRepeat_82 : decode c_Model_putRepeat 82 = .ok (.aload_n 0, 1) := by decide +kernel
theorem d_Model_putRepeat_83 : decode c_Model_putRepeat 83 = .ok (.aload_n 0, 1) := by decide +kernel
theorem d_Model_putRepeat_84 : decode c_Model_putRepeat 84 = .ok (.getfield 13, 3) := by decide +kernel
theorem d_Model_putRepeat_87 : decode c_Model_putRepeat 87 = .ok (.iconst 2, 1) := by decide +kernel
theorem d_Model_putRepeat_88 : decode c_Model_putRepeat 88 = .ok (.iaload, 1) := by decide +kernel
theorem d_Model_putRepeat_89 : decode c_Model_putRepeat 89 = .ok (.invokevirtual 215, 3) := by decide +kernel
theorem d_Model_putRepeat_92 : decode c_Model_putRepeat 92 = .ok (.aload_n 0, 1) := by decide +kernel
theorem d_Model_putRepeat_93 : decode c_Model_putRepeat 93 = .ok (.aload_n 0, 1) := by decide +kernel
theorem d_Model_putRepeat_94 : decode c_Model_putRepeat 94 = .ok (.getfield 31, 3) := by decide +kernel
theorem d_Model_putRepeat_97 : decode c_Model_putRepeat 97 = .ok (.iload 7, 2) := by decide +kernel
theorem d_Model_putRepeat_99 : decode c_Model_putRepeat 99 = .ok (.iaload, 1) := by decide +kernel
theorem d_Model_putRepeat_100 : decode c_Model_putRepeat 100 = .ok (.invokevirtual 215, 3) := by decide +kernel
theorem d_Model_putRepeat_103 : decode c_Model_putRepeat 103 = .ok (.iinc 7 1, 3) := by decide +kernel
theorem d_Model_putRepeat_106 : decode c_Model_putRepeat 106 = .ok (.goto (-52), 3) := by decide +kernel
theorem d_Model_putRepeat_109 : decode c_Model_putRepeat 109 = .ok (.iinc 5 1, 3) := by decide +kernel
theorem d_Model_putRepeat_112 : decode c_Model_putRepeat 112 = .ok (.goto (-100), 3) := by decide +kernel
theorem d_Model_putRepeat_115 : decode c_Model_putRepeat 115 = .ok (.return_, 1) := by decide +kernel
theorem d_Model_build_0 : decode c_Model_build 0 = .ok (.aload_n 0, 1) := by decide +kernel
theorem d_Model_build_1 : decode c_Model_build 1 = .ok (.aload_n 0, 1) := by decide +kernel
theorem d_Model_build_2 : decode c_Model_build 2 = .ok (.getfield 147, 3) := by decide +kernel
theorem d_Model_build_5 : decode c_Model_build 5 = .ok (.ifCond .eq 7, 3) := by decide +kernel
theorem d_Model_build_8 : decode c_Model_build 8 = .ok (.iconst 0, 1) := by decide +kernel
theorem d_Model_build_9 : decode c_Model_build 9 = .ok (.goto 4, 3) := by decide +kernel
theorem d_Model_build_12 : decode c_Model_build 12 = .ok (.iconst 1, 1) := by decide +kernel
theorem d_Model_build_13 : decode c_Model_build 13 = .ok (.putfield 80, 3) := by decide +kernel
theorem d_Model_build_16 : decode c_Model_build 16 = .ok (.aload_n 0, 1) := by decide +kernel
theorem d_Model_build_17 : decode c_Model_build 17 = .ok (.getfield 80, 3) := by decide +kernel
theorem d_Model_build_20 : decode c_Model_build 20 = .ok (.ifCond .eq 5, 3) := by decide +kernel
theorem d_Model_build_23 : decode c_Model_build 23 = .ok (.iconst 0, 1) := by decide +kernel
theorem d_Model_build_24 : decode c_Model_build 24 = .ok (.ireturn, 1) := by decide +kernel
theorem d_Model_build_25 : decode c_Model_build 25 = .ok (.aload_n 0, 1) := by decide +kernel
theorem d_Model_build_26 : decode c_Model_build 26 = .ok (.iconst 0, 1) := by decide +kernel
theorem d_Model_build_27 : decode c_Model_build 27 = .ok (.putfield 206, 3) := by decide +kernel
theorem d_Model_build_30 : decode c_Model_build 30 = .ok (.iconst 0, 1) := by decide +kernel
theorem d_Model_build_31 : decode c_Model_build 31 = .ok (.istore_n 1, 1) := by decide +kernel
theorem d_Model_build_32 : decode c_Model_build 32 = .ok (.iload_n 1, 1) := by decide +kernel
theorem d_Model_build_33 : decode c_Model_build 33 = .ok (.aload_n 0, 1) := by decide +kernel
theorem d_Model_build_34 : decode c_Model_build 34 = .ok (.getfield 106, 3) := by decide +kernel
theorem d_Model_build_37 : decode c_Model_build 37 = .ok (.if_icmp .ge 139, 3) := by decide +kernel
theorem d_Model_build_40 : decode c_Model_build 40 = .ok (.aload_n 0, 1) := by decide +kernel
theorem d_Model_build_41 : decode c_Model_build 41 = .ok (.aload_n 0, 1) := by decide +kernel
theorem d_Model_build_42 : decode c_Model_build 42 = .ok (.getfield 16, 3) := by decide +kernel
theorem d_Model_build_45 : decode c_Model_build 45 = .ok (.iload_n 1, 1) := by decide +kernel
theorem d_Model_build_46 : decode c_Model_build 46 = .ok (.iaload, 1) := by decide +kernel
theorem d_Model_build_47 : decode c_Model_build 47 = .ok (.bipush 16, 2) := by decide +kernel
theorem d_Model_build_49 : decode c_Model_build 49 = .ok (.ishr, 1) := by decide +kernel
theorem d_Model_build_50 : decode c_Model_build 50 = .ok (.invokevirtual 215, 3) := by decide +kernel
theorem d_Model_build_53 : decode c_Model_build 53 = .ok (.aload_n 0, 1) := by decide +kernel
theorem d_Model_build_54 : decode c_Model_build 54 = .ok (.aload_n 0, 1) := by decide +kernel
theorem d_Model_build_55 : decode c_Model_build 55 = .ok (.getfield 16, 3) := by decide +kernel
theorem d_Model_build_58 : decode c_Model_build 58 = .ok (.iload_n 1, 1) := by decide +kernel
theorem d_Model_build_59 : decode c_Model_build 59 = .ok (.iaload, 1) := by decide +kernel
theorem d_Model_build_60 : decode c_Model_build 60 = .ok (.bipush 8, 2) := by decide +kernel
theorem d_Model_build_62 : decode c_Model_build 62 = .ok (.ishr, 1) := by decide +kernel
theorem d_Model_build_63 : decode c_Model_build 63 = .ok (.sipush 255, 3) := by decide +kernel
theorem d_Model_build_66 : decode c_Model_build 66 = .ok (.iand, 1) := by decide +kernel
theorem d_Model_build_67 : decode c_Model_build 67 = .ok (.invokevirtual 215, 3) := by decide +kernel
theorem d_Model_build_70 : decode c_Model_build 70 = .ok (.aload_n 0, 1) := by decide +kernel
theorem d_Model_build_71 : decode c_Model_build 71 = .ok (.aload_n 0, 1) := by decide +kernel
theorem d_Model_build_72 : decode c_Model_build 72 = .ok (.getfield 16, 3) := by decide +kernel
theorem d_Model_build_75 : decode c_Model_build 75 = .ok (.iload_n 1, 1) := by decide +kernel
theorem d_Model_build_76 : decode c_Model_build 76 = .ok (.iaload, 1) := by decide +kernel
theorem d_Model_build_77 : decode c_Model_build 77 = .ok (.sipush 255, 3) := by decide +kernel
theorem d_Model_build_80 : decode c_Model_build 80 = .ok (.iand, 1) := by decide +kernel
theorem d_Model_build_81 : decode c_Model_build 81 = .ok (.invokevirtual 215, 3) := by decide +kernel
theorem d_Model_build_84 : decode c_Model_build 84 = .ok (.aload_n 0, 1) := by decide +kernel
theorem d_Model_build_85 : decode c_Model_build 85 = .ok (.iload_n 1, 1) := by decide +kernel
theorem d_Model_build_86 : decode c_Model_build 86 = .ok (.invokevirtual 221, 3) := by decide +kernel
theorem d_Model_build_89 : decode c_Model_build 89 = .ok (.istore_n 2, 1) := by decide +kernel
theorem d_Model_build_90 : decode c_Model_build 90 = .ok (.iconst 0, 1) := by decide +kernel
theorem d_Model_build_91 : decode c_Model_build 91 = .ok (.istore_n 3, 1) := by decide +kernel
theorem d_Model_build_92 : decode c_Model_build 92 = .ok (.iload_n 3, 1) := by decide +kernel
theorem d_Model_build_93 : decode c_Model_build 93 = .ok (.iload_n 2, 1) := by decide +kernel
theorem d_Model_build_94 : decode c_Model_build 94 = .ok (.if_icmp .ge 66, 3) := by decide +kernel
theorem d_Model_build_97 : decode c_Model_build 97 = .ok (.aload_n 0, 1) := by decide +kernel
theorem d_Model_build_98 : decode c_Model_build 98 = .ok (.aload_n 0, 1) := by decide +kernel
theorem d_Model_build_99 : decode c_Model_build 99 = .ok (.getfield 13, 3) := by decide +kernel
theorem d_Model_build_102 : decode c_Model_build 102 = .ok (.iconst 1, 1) := by decide +kernel
theorem d_Model_build_103 : decode c_Model_build 103 = .ok (.iaload, 1) := by decide +kernel
theorem d_Model_build_104 : decode c_Model_build 104 = .ok (.invokevirtual 215, 3) := by decide +kernel
theorem d_Model_build_107 : decode c_Model_build 107 = .ok (.aload_n 0, 1) := by decide +kernel
theorem d_Model_build_108 : decode c_Model_build 108 = .ok (.iload_n 1, 1) := by decide +kernel
theorem d_Model_build_109 : decode c_Model_build 109 = .ok (.iload_n 3, 1) := by decide +kernel
theorem d_Model_build_110 : decode c_Model_build 110 = .ok (.invokevirtual 212, 3) := by decide +kernel
theorem d_Model_build_113 : decode c_Model_build 113 = .ok (.istore 4, 2) := by decide +kernel
theorem d_Model_build_115 : decode c_Model_build 115 = .ok (.iconst 0, 1) := by decide +kernel
theorem d_Model_build_116 : decode c_Model_build 116 = .ok (.istore 5, 2) := by decide +kernel
theorem d_Model_build_118 : decode c_Model_build 118 = .ok (.iload 5, 2) := by decide +kernel
theorem d_Model_build_120 : decode c_Model_build 120 = .ok (.iload 4, 2) := by decide +kernel
theorem d_Model_build_122 : decode c_Model_build 122 = .ok (.if_icmp .ge 32, 3) := by decide +kernel
theorem d_Model_build_125 : decode c_Model_build 125 = .ok (.iload 5, 2) := by decide +kernel
theorem d_Model_build_127 : decode c_Model_build 127 = .ok (.ifCond .le 13, 3) := by decide +kernel
theorem d_Model_build_130 : decode c_Model_build 130 = .ok (.aload_n 0, 1) := by decide +kernel
theorem d_Model_build_131 : decode c_Model_build 131 = .ok (.aload_n 0, 1) := by decide +kernel
theorem d_Model_build_132 : decode c_Model_build 132 = .ok (.getfield 13, 3) := by decide +kernel
theorem d_Model_build_135 : decode c_Model_build 135 = .ok (.iconst 3, 1) := by decide +kernel
theorem d_Model_build_136 : decode c_Model_build 136 = .ok (.iaload, 1) := by decide +kernel
theorem d_Model_build_137 : decode c_Model_build 137 = .ok (.invokevirtual 215, 3) := by decide +kernel
theorem d_Model_build_140 : decode c_Model_build 140 = .ok (.aload_n 0, 1) := by decide +kernel
theorem d_Model_build_141 : decode c_Model_build 141 = .ok (.iload_n 1, 1) := by decide +kernel
theorem d_Model_build_142 : decode c_Model_build 142 = .ok (.iload_n 3, 1) := by decide +kernel
theorem d_Model_build_143 : decode c_Model_build 143 = .ok (.iload 5, 2) := by decide +kernel
theorem d_Model_build_145 : decode c_Model_build 145 = .ok (.invokevirtual 224, 3) := by decide +kernel
theorem d_Model_build_148 : decode c_Model_build 148 = .ok (.iinc 5 1, 3) := by decide +kernel
theorem d_Model_build_151 : decode c_Model_build 151 = .ok (.goto (-33), 3) := by decide +kernel
theorem d_Model_build_154 : decode c_Model_build 154 = .ok (.iinc 3 1, 3) := by decide +kernel
theorem d_Model_build_157 : decode c_Model_build 157 = .ok (.goto (-65), 3) := by decide +kernel
theorem d_Model_build_160 : decode c_Model_build 160 = .ok (.aload_n 0, 1) := by decide +kernel
theorem d_Model_build_161 : decode c_Model_build 161 = .ok (.aload_n 0, 1) := by decide +kernel
theorem d_Model_build_162 : decode c_Model_build 162 = .ok (.getfield 13, 3) := by decide +kernel
theorem d_Model_build_165 : decode c_Model_build 165 = .ok (.iconst 4, 1) := by decide +kernel
theorem d_Model_build_166 : decode c_Model_build 166 = .ok (.iaload, 1) := by decide +kernel
theorem d_Model_build_167 : decode c_Model_build 167 = .ok (.invokevirtual 215, 3) := by decide +kernel
theorem d_Model_build_170 : decode c_Model_build 170 = .ok (.iinc 1 1, 3) := by decide +kernel
theorem d_Model_build_173 : decode c_Model_build 173 = .ok (.goto (-141), 3) := by decide +kernel
theorem d_Model_build_176 : decode c_Model_build 176 = .ok (.aload_n 0, 1) := by decide +kernel
theorem d_Model_build_177 : decode c_Model_build 177 = .ok (.getfield 206, 3) := by decide +kernel
theorem d_Model_build_180 : decode c_Model_build 180 = .ok (.ireturn, 1) := by decide +kernel
theorem d_Model_at_0 : decode c_Model_at 0 = .ok (.aload_n 0, 1) := by decide +kernel
theorem d_Model_at_1 : decode c_Model_at 1 = .ok (.iload_n 1, 1) := by decide +kernel
theorem d_Model_at_2 : decode c_Model_at 2 = .ok (.ifCond .lt 10, 3) := by decide +kernel
theorem d_Model_at_5 : decode c_Model_at 5 = .ok (.iload_n 1, 1) := by decide +kernel
theorem d_Model_at_6 : decode c_Model_at 6 = .ok (.sipush 4000, 3) := by decide +kernel
theorem d_Model_at_9 : decode c_Model_at 9 = .ok (.if_icmp .lt 7, 3) := by decide +kernel
theorem d_Model_at_12 : decode c_Model_at 12 = .ok (.iconst 1, 1) := by decide +kernel
theorem d_Model_at_13 : decode c_Model_at 13 = .ok (.goto 4, 3) := by decide +kernel
theorem d_Model_at_16 : decode c_Model_at 16 = .ok (.iconst 0, 1) := by decide +kernel
theorem d_Model_at_17 : decode c_Model_at 17 = .ok (.putfield 80, 3) := by decide +kernel
theorem d_Model_at_20 : decode c_Model_at 20 = .ok (.aload_n 0, 1) := by decide +kernel
theorem d_Model_at_21 : decode c_Model_at 21 = .ok (.getfield 80, 3) := by decide +kernel
theorem d_Model_at_24 : decode c_Model_at 24 = .ok (.ifCond .ne 11, 3) := by decide +kernel
theorem d_Model_at_27 : decode c_Model_at 27 = .ok (.iload_n 1, 1) := by decide +kernel
theorem d_Model_at_28 : decode c_Model_at 28 = .ok (.aload_n 0, 1) := by decide +kernel
theorem d_Model_at_29 : decode c_Model_at 29 = .ok (.getfield 206, 3) := by decide +kernel
theorem d_Model_at_32 : decode c_Model_at 32 = .ok (.if_icmp .lt 7, 3) := by decide +kernel
theorem d_Model_at_35 : decode c_Model_at 35 = .ok (.iconst 0, 1) := by decide +kernel
theorem d_Model_at_36 : decode c_Model_at 36 = .ok (.goto 9, 3) := by decide +kernel
theorem d_Model_at_39 : decode c_Model_at 39 = .ok (.aload_n 0, 1) := by decide +kernel
theorem d_Model_at_40 : decode c_Model_at 40 = .ok (.getfield 74, 3) := by decide +kernel
theorem d_Model_at_43 : decode c_Model_at 43 = .ok (.iload_n 1, 1) := by decide +kernel
theorem d_Model_at_44 : decode c_Model_at 44 = .ok (.iaload, 1) := by decide +kernel
theorem d_Model_at_45 : decode c_Model_at 45 = .ok (.ireturn, 1) := by decide +kernel
theorem d_Model_count_0 : decode c_Model_count 0 = .ok (.aload_n 0, 1) := by decide +kernel
theorem d_Model_count_1 : decode c_Model_count 1 = .ok (.iconst 0, 1) := by decide +kernel
theorem d_Model_count_2 : decode c_Model_count 2 = .ok (.putfield 80, 3) := by decide +kernel
theorem d_Model_count_5 : decode c_Model_count 5 = .ok (.iload_n 1, 1) := by decide +kernel
theorem d_Model_count_6 : decode c_Model_count 6 = .ok (.ifCond .ne 8, 3) := by decide +kernel
theorem d_Model_count_9 : decode c_Model_count 9 = .ok (.aload_n 0, 1) := by decide +kernel
theorem d_Model_count_10 : decode c_Model_count 10 = .ok (.getfield 83, 3) := by decide +kernel
theorem d_Model_count_13 : decode c_Model_count 13 = .ok (.ireturn, 1) := by decide +kernel
theorem d_Model_count_14 : decode c_Model_count 14 = .ok (.iload_n 1, 1) := by decide +kernel
theorem d_Model_count_15 : decode c_Model_count 15 = .ok (.iconst 1, 1) := by decide +kernel
theorem d_Model_count_16 : decode c_Model_count 16 = .ok (.if_icmp .ne 8, 3) := by decide +kernel
theorem d_Model_count_19 : decode c_Model_count 19 = .ok (.aload_n 0, 1) := by decide +kernel
theorem d_Model_count_20 : decode c_Model_count 20 = .ok (.getfield 106, 3) := by decide +kernel
theorem d_Model_count_23 : decode c_Model_count 23 = .ok (.ireturn, 1) := by decide +kernel
theorem d_Model_count_24 : decode c_Model_count 24 = .ok (.iload_n 1, 1) := by decide +kernel
theorem d_Model_count_25 : decode c_Model_count 25 = .ok (.iconst 2, 1) := by decide +kernel
theorem d_Model_count_26 : decode c_Model_count 26 = .ok (.if_icmp .ne 8, 3) := by decide +kernel
theorem d_Model_count_29 : decode c_Model_count 29 = .ok (.aload_n 0, 1) := by decide +kernel
theorem d_Model_count_30 : decode c_Model_count 30 = .ok (.getfield 206, 3) := by decide +kernel
theorem d_Model_count_33 : decode c_Model_count 33 = .ok (.ireturn, 1) := by decide +kernel
theorem d_Model_count_34 : decode c_Model_count 34 = .ok (.iload_n 1, 1) := by decide +kernel
theorem d_Model_count_35 : decode c_Model_count 35 = .ok (.iconst 3, 1) := by decide +kernel
theorem d_Model_count_36 : decode c_Model_count 36 = .ok (.if_icmp .lt 18, 3) := by decide +kernel
theorem d_Model_count_39 : decode c_Model_count 39 = .ok (.iload_n 1, 1) := by decide +kernel
theorem d_Model_count_40 : decode c_Model_count 40 = .ok (.bipush 7, 2) := by decide +kernel
theorem d_Model_count_42 : decode c_Model_count 42 = .ok (.if_icmp .gt 12, 3) := by decide +kernel
theorem d_Model_count_45 : decode c_Model_count 45 = .ok (.aload_n 0, 1) := by decide +kernel
theorem d_Model_count_46 : decode c_Model_count 46 = .ok (.getfield 13, 3) := by decide +kernel
theorem d_Model_count_49 : decode c_Model_count 49 = .ok (.iload_n 1, 1) := by decide +kernel
theorem d_Model_count_50 : decode c_Model_count 50 = .ok (.iconst 3, 1) := by decide +kernel
theorem d_Model_count_51 : decode c_Model_count 51 = .ok (.isub, 1) := by decide +kernel
theorem d_Model_count_52 : decode c_Model_count 52 = .ok (.iaload, 1) := by decide +kernel
theorem d_Model_count_53 : decode c_Model_count 53 = .ok (.ireturn, 1) := by decide +kernel
theorem d_Model_count_54 : decode c_Model_count 54 = .ok (.iload_n 1, 1) := by decide +kernel
theorem d_Model_count_55 : decode c_Model_count 55 = .ok (.bipush 10, 2) := by decide +kernel
theorem d_Model_count_57 : decode c_Model_count 57 = .ok (.if_icmp .lt 21, 3) := by decide +kernel
theorem d_Model_count_60 : decode c_Model_count 60 = .ok (.iload_n 1, 1) := by decide +kernel
theorem d_Model_count_61 : decode c_Model_count 61 = .ok (.bipush 13, 2) := by decide +kernel
theorem d_Model_count_63 : decode c_Model_count 63 = .ok (.if_icmp .gt 15, 3) := by decide +kernel
theorem d_Model_count_66 : decode c_Model_count 66 = .ok (.aload_n 0, 1) := by decide +kernel
theorem d_Model_count_67 : decode c_Model_count 67 = .ok (.getfield 34, 3) := by decide +kernel
theorem d_Model_count_70 : decode c_Model_count 70 = .ok (.iload_n 1, 1) := by decide +kernel
theorem d_Model_count_71 : decode c_Model_count 71 = .ok (.bipush 10, 2) := by decide +kernel
theorem d_Model_count_73 : decode c_Model_count 73 = .ok (.isub, 1) := by decide +kernel
theorem d_Model_count_74 : decode c_Model_count 74 = .ok (.iaload, 1) := by decide +kernel
theorem d_Model_count_75 : decode c_Model_count 75 = .ok (.goto 4, 3) := by decide +kernel
theorem d_Model_count_78 : decode c_Model_count 78 = .ok (.iconst (-1), 1) := by decide +kernel
theorem d_Model_count_79 : decode c_Model_count 79 = .ok (.ireturn, 1) := by decide +kernel
theorem d_Law_row_0 : decode c_Law_row 0 = .ok (.aload 6, 2) := by decide +kernel
theorem d_Law_row_2 : decode c_Law_row 2 = .ok (.iconst 0, 1) := by decide +kernel
theorem d_Law_row_3 : decode c_Law_row 3 = .ok (.aload_n 0, 1) := by decide +kernel
theorem d_Law_row_4 : decode c_Law_row 4 = .ok (.iload_n 1, 1) := by decide +kernel
theorem d_Law_row_5 : decode c_Law_row 5 = .ok (.iload_n 2, 1) := by decide +kernel
theorem d_Law_row_6 : decode c_Law_row 6 = .ok (.iload_n 3, 1) := by decide +kernel
theorem d_Law_row_7 : decode c_Law_row 7 = .ok (.iload 4, 2) := by decide +kernel
theorem d_Law_row_9 : decode c_Law_row 9 = .ok (.iload 5, 2) := by decide +kernel
theorem d_Law_row_11 : decode c_Law_row 11 = .ok (.invokevirtual 7, 3) := by decide +kernel
theorem d_Law_row_14 : decode c_Law_row 14 = .ok (.i2l, 1) := by decide +kernel
theorem d_Law_row_15 : decode c_Law_row 15 = .ok (.lastore, 1) := by decide +kernel
theorem d_Law_row_16 : decode c_Law_row 16 = .ok (.goto 11, 3) := by decide +kernel
theorem d_Law_row_19 : decode c_Law_row 19 = .ok (.astore 7, 2) := by decide +kernel
theorem d_Law_row_21 : decode c_Law_row 21 = .ok (.iconst 1, 1) := by decide +kernel
theorem d_Law_row_22 : decode c_Law_row 22 = .ok (.ireturn, 1) := by decide +kernel
theorem d_Law_row_23 : decode c_Law_row 23 = .ok (.astore 7, 2) := by decide +kernel
theorem d_Law_row_25 : decode c_Law_row 25 = .ok (.iconst 2, 1) := by decide +kernel
theorem d_Law_row_26 : decode c_Law_row 26 = .ok (.ireturn, 1) := by decide +kernel
theorem d_Law_row_27 : decode c_Law_row 27 = .ok (.iconst 0, 1) := by decide +kernel
theorem d_Law_row_28 : decode c_Law_row 28 = .ok (.ireturn, 1) := by decide +kernel
theorem d_Law_check_0 : decode c_Law_check 0 = .ok (.aload_n 1, 1) := by decide +kernel
theorem d_Law_check_1 : decode c_Law_check 1 = .ok (.iconst 0, 1) := by decide +kernel
theorem d_Law_check_2 : decode c_Law_check 2 = .ok (.aload_n 0, 1) := by decide +kernel
theorem d_Law_check_3 : decode c_Law_check 3 = .ok (.invokevirtual 17, 3) := by decide +kernel
theorem d_Law_check_6 : decode c_Law_check 6 = .ok (.i2l, 1) := by decide +kernel
theorem d_Law_check_7 : decode c_Law_check 7 = .ok (.lastore, 1) := by decide +kernel
theorem d_Law_check_8 : decode c_Law_check 8 = .ok (.goto 6, 3) := by decide +kernel
theorem d_Law_check_11 : decode c_Law_check 11 = .ok (.astore_n 2, 1) := by decide +kernel
theorem d_Law_check_12 : decode c_Law_check 12 = .ok (.iconst 1, 1) := by decide +kernel
theorem d_Law_check_13 : decode c_Law_check 13 = .ok (.ireturn, 1) := by decide +kernel
theorem d_Law_check_14 : decode c_Law_check 14 = .ok (.iconst 0, 1) := by decide +kernel
theorem d_Law_check_15 : decode c_Law_check 15 = .ok (.ireturn, 1) := by decide +kernel
theorem d_Law_segment_0 : decode c_Law_segment 0 = .ok (.aload_n 3, 1) := by decide +kernel
theorem d_Law_segment_1 : decode c_Law_segment 1 = .ok (.iconst 0, 1) := by decide +kernel
theorem d_Law_segment_2 : decode c_Law_segment 2 = .ok (.aload_n 0, 1) := by decide +kernel
theorem d_Law_segment_3 : decode c_Law_segment 3 = .ok (.iload_n 1, 1) := by decide +kernel
theorem d_Law_segment_4 : decode c_Law_segment 4 = .ok (.iload_n 2, 1) := by decide +kernel
theorem d_Law_segment_5 : decode c_Law_segment 5 = .ok (.invokevirtual 21, 3) := by decide +kernel
theorem d_Law_segment_8 : decode c_Law_segment 8 = .ok (.i2l, 1) := by decide +kernel
theorem d_Law_segment_9 : decode c_Law_segment 9 = .ok (.lastore, 1) := by decide +kernel
theorem d_Law_segment_10 : decode c_Law_segment 10 = .ok (.goto 7, 3) := by decide +kernel
theorem d_Law_segment_13 : decode c_Law_segment 13 = .ok (.astore 4, 2) := by decide +kernel
theorem d_Law_segment_15 : decode c_Law_segment 15 = .ok (.iconst 1, 1) := by decide +kernel
theorem d_Law_segment_16 : decode c_Law_segment 16 = .ok (.ireturn, 1) := by decide +kernel
theorem d_Law_segment_17 : decode c_Law_segment 17 = .ok (.iconst 0, 1) := by decide +kernel
theorem d_Law_segment_18 : decode c_Law_segment 18 = .ok (.ireturn, 1) := by decide +kernel
theorem d_Law_repeats_0 : decode c_Law_repeats 0 = .ok (.aload_n 3, 1) := by decide +kernel
theorem d_Law_repeats_1 : decode c_Law_repeats 1 = .ok (.iconst 0, 1) := by decide +kernel
theorem d_Law_repeats_2 : decode c_Law_repeats 2 = .ok (.aload_n 0, 1) := by decide +kernel
theorem d_Law_repeats_3 : decode c_Law_repeats 3 = .ok (.iload_n 1, 1) := by decide +kernel
theorem d_Law_repeats_4 : decode c_Law_repeats 4 = .ok (.iload_n 2, 1) := by decide +kernel
theorem d_Law_repeats_5 : decode c_Law_repeats 5 = .ok (.invokevirtual 27, 3) := by decide +kernel
theorem d_Law_repeats_8 : decode c_Law_repeats 8 = .ok (.i2l, 1) := by decide +kernel
theorem d_Law_repeats_9 : decode c_Law_repeats 9 = .ok (.lastore, 1) := by decide +kernel
theorem d_Law_repeats_10 : decode c_Law_repeats 10 = .ok (.goto 7, 3) := by decide +kernel
theorem d_Law_repeats_13 : decode c_Law_repeats 13 = .ok (.astore 4, 2) := by decide +kernel
theorem d_Law_repeats_15 : decode c_Law_repeats 15 = .ok (.iconst 1, 1) := by decide +kernel
theorem d_Law_repeats_16 : decode c_Law_repeats 16 = .ok (.ireturn, 1) := by decide +kernel
theorem d_Law_repeats_17 : decode c_Law_repeats 17 = .ok (.iconst 0, 1) := by decide +kernel
theorem d_Law_repeats_18 : decode c_Law_repeats 18 = .ok (.ireturn, 1) := by decide +kernel
theorem d_Law_components_0 : decode c_Law_components 0 = .ok (.aload 4, 2) := by decide +kernel
theorem d_Law_components_2 : decode c_Law_components 2 = .ok (.iconst 0, 1) := by decide +kernel
theorem d_Law_components_3 : decode c_Law_components 3 = .ok (.aload_n 0, 1) := by decide +kernel
theorem d_Law_components_4 : decode c_Law_components 4 = .ok (.iload_n 1, 1) := by decide +kernel
theorem d_Law_components_5 : decode c_Law_components 5 = .ok (.iload_n 2, 1) := by decide +kernel
theorem d_Law_components_6 : decode c_Law_components 6 = .ok (.iload_n 3, 1) := by decide +kernel
theorem d_Law_components_7 : decode c_Law_components 7 = .ok (.invokevirtual 30, 3) := by decide +kernel
theorem d_Law_components_10 : decode c_Law_components 10 = .ok (.i2l, 1) := by decide +kernel
theorem d_Law_components_11 : decode c_Law_components 11 = .ok (.lastore, 1) := by decide +kernel
theorem d_Law_components_12 : decode c_Law_components 12 = .ok (.goto 7, 3) := by decide +kernel
theorem d_Law_components_15 : decode c_Law_components 15 = .ok (.astore 5, 2) := by decide +kernel
theorem d_Law_components_17 : decode c_Law_components 17 = .ok (.iconst 1, 1) := by decide +kernel
theorem d_Law_components_18 : decode c_Law_components 18 = .ok (.ireturn, 1) := by decide +kernel
theorem d_Law_components_19 : decode c_Law_components 19 = .ok (.iconst 0, 1) := by decide +kernel
theorem d_Law_components_20 : decode c_Law_components 20 = .ok (.ireturn, 1) := by decide +kernel
theorem d_Law_field_0 : decode c_Law_field 0 = .ok (.aload 5, 2) := by decide +kernel
theorem d_Law_field_2 : decode c_Law_field 2 = .ok (.iconst 0, 1) := by decide +kernel
theorem d_Law_field_3 : decode c_Law_field 3 = .ok (.aload_n 0, 1) := by decide +kernel
theorem d_Law_field_4 : decode c_Law_field 4 = .ok (.iload_n 1, 1) := by decide +kernel
theorem d_Law_field_5 : decode c_Law_field 5 = .ok (.iload_n 2, 1) := by decide +kernel
theorem d_Law_field_6 : decode c_Law_field 6 = .ok (.iload_n 3, 1) := by decide +kernel
theorem d_Law_field_7 : decode c_Law_field 7 = .ok (.iload 4, 2) := by decide +kernel
theorem d_Law_field_9 : decode c_Law_field 9 = .ok (.invokevirtual 34, 3) := by decide +kernel
theorem d_Law_field_12 : decode c_Law_field 12 = .ok (.i2l, 1) := by decide +kernel
theorem d_Law_field_13 : decode c_Law_field 13 = .ok (.lastore, 1) := by decide +kernel
theorem d_Law_field_14 : decode c_Law_field 14 = .ok (.goto 7, 3) := by decide +kernel
theorem d_Law_field_17 : decode c_Law_field 17 = .ok (.astore 6, 2) := by decide +kernel
theorem d_Law_field_19 : decode c_Law_field 19 = .ok (.iconst 1, 1) := by decide +kernel
theorem d_Law_field_20 : decode c_Law_field 20 = .ok (.ireturn, 1) := by decide +kernel
theorem d_Law_field_21 : decode c_Law_field 21 = .ok (.iconst 0, 1) := by decide +kernel
theorem d_Law_field_22 : decode c_Law_field 22 = .ok (.ireturn, 1) := by decide +kernel
theorem d_Law_letter_0 : decode c_Law_letter 0 = .ok (.aload 6, 2) := by decide +kernel
theorem d_Law_letter_2 : decode c_Law_letter 2 = .ok (.iconst 0, 1) := by decide +kernel
theorem d_Law_letter_3 : decode c_Law_letter 3 = .ok (.aload_n 0, 1) := by decide +kernel
theorem d_Law_letter_4 : decode c_Law_letter 4 = .ok (.iload_n 1, 1) := by decide +kernel
theorem d_Law_letter_5 : decode c_Law_letter 5 = .ok (.iload_n 2, 1) := by decide +kernel
theorem d_Law_letter_6 : decode c_Law_letter 6 = .ok (.iload_n 3, 1) := by decide +kernel
theorem d_Law_letter_7 : decode c_Law_letter 7 = .ok (.iload 4, 2) := by decide +kernel
theorem d_Law_letter_9 : decode c_Law_letter 9 = .ok (.iload 5, 2) := by decide +kernel
theorem d_Law_letter_11 : decode c_Law_letter 11 = .ok (.invokevirtual 38, 3) := by decide +kernel
theorem d_Law_letter_14 : decode c_Law_letter 14 = .ok (.i2l, 1) := by decide +kernel
theorem d_Law_letter_15 : decode c_Law_letter 15 = .ok (.lastore, 1) := by decide +kernel
theorem d_Law_letter_16 : decode c_Law_letter 16 = .ok (.goto 7, 3) := by decide +kernel
theorem d_Law_letter_19 : decode c_Law_letter 19 = .ok (.astore 7, 2) := by decide +kernel
theorem d_Law_letter_21 : decode c_Law_letter 21 = .ok (.iconst 1, 1) := by decide +kernel
theorem d_Law_letter_22 : decode c_Law_letter 22 = .ok (.ireturn, 1) := by decide +kernel
theorem d_Law_letter_23 : decode c_Law_letter 23 = .ok (.iconst 0, 1) := by decide +kernel
theorem d_Law_letter_24 : decode c_Law_letter 24 = .ok (.ireturn, 1) := by decide +kernel
theorem d_Law_build_0 : decode c_Law_build 0 = .ok (.aload_n 1, 1) := by decide +kernel
theorem d_Law_build_1 : decode c_Law_build 1 = .ok (.iconst 0, 1) := by decide +kernel
theorem d_Law_build_2 : decode c_Law_build 2 = .ok (.aload_n 0, 1) := by decide +kernel
theorem d_Law_build_3 : decode c_Law_build 3 = .ok (.invokevirtual 41, 3) := by decide +kernel
theorem d_Law_build_6 : decode c_Law_build 6 = .ok (.i2l, 1) := by decide +kernel
theorem d_Law_build_7 : decode c_Law_build 7 = .ok (.lastore, 1) := by decide +kernel
theorem d_Law_build_8 : decode c_Law_build 8 = .ok (.goto 6, 3) := by decide +kernel
theorem d_Law_build_11 : decode c_Law_build 11 = .ok (.astore_n 2, 1) := by decide +kernel
theorem d_Law_build_12 : decode c_Law_build 12 = .ok (.iconst 1, 1) := by decide +kernel
theorem d_Law_build_13 : decode c_Law_build 13 = .ok (.ireturn, 1) := by decide +kernel
theorem d_Law_build_14 : decode c_Law_build 14 = .ok (.iconst 0, 1) := by decide +kernel
theorem d_Law_build_15 : decode c_Law_build 15 = .ok (.ireturn, 1) := by decide +kernel
theorem d_Law_at_0 : decode c_Law_at 0 = .ok (.aload_n 2, 1) := by decide +kernel
theorem d_Law_at_1 : decode c_Law_at 1 = .ok (.iconst 0, 1) := by decide +kernel
theorem d_Law_at_2 : decode c_Law_at 2 = .ok (.aload_n 0, 1) := by decide +kernel
theorem d_Law_at_3 : decode c_Law_at 3 = .ok (.iload_n 1, 1) := by decide +kernel
theorem d_Law_at_4 : decode c_Law_at 4 = .ok (.invokevirtual 44, 3) := by decide +kernel
theorem d_Law_at_7 : decode c_Law_at 7 = .ok (.i2l, 1) := by decide +kernel
theorem d_Law_at_8 : decode c_Law_at 8 = .ok (.lastore, 1) := by decide +kernel
theorem d_Law_at_9 : decode c_Law_at 9 = .ok (.goto 6, 3) := by decide +kernel
theorem d_Law_at_12 : decode c_Law_at 12 = .ok (.astore_n 3, 1) := by decide +kernel
theorem d_Law_at_13 : decode c_Law_at 13 = .ok (.iconst 1, 1) := by decide +kernel
theorem d_Law_at_14 : decode c_Law_at 14 = .ok (.ireturn, 1) := by decide +kernel
theorem d_Law_at_15 : decode c_Law_at 15 = .ok (.iconst 0, 1) := by decide +kernel
theorem d_Law_at_16 : decode c_Law_at 16 = .ok (.ireturn, 1) := by decide +kernel
theorem d_Law_law_0 : decode c_Law_law 0 = .ok (.new 8, 3) := by decide +kernel
theorem d_Law_law_3 : decode c_Law_law 3 = .ok (.dup, 1) := by decide +kernel
theorem d_Law_law_4 : decode c_Law_law 4 = .ok (.invokespecial 50, 3) := by decide +kernel
theorem d_Law_law_7 : decode c_Law_law 7 = .ok (.astore_n 1, 1) := by decide +kernel
theorem d_Law_law_8 : decode c_Law_law 8 = .ok (.new 51, 3) := by decide +kernel
theorem d_Law_law_11 : decode c_Law_law 11 = .ok (.dup, 1) := by decide +kernel
theorem d_Law_law_12 : decode c_Law_law 12 = .ok (.invokespecial 53, 3) := by decide +kernel
theorem d_Law_law_15 : decode c_Law_law 15 = .ok (.astore_n 2, 1) := by decide +kernel
theorem d_Law_law_16 : decode c_Law_law 16 = .ok (.iconst 1, 1) := by decide +kernel
theorem d_Law_law_17 : decode c_Law_law 17 = .ok (.newarray .long, 2) := by decide +kernel
theorem d_Law_law_19 : decode c_Law_law 19 = .ok (.astore_n 3, 1) := by decide +kernel
theorem d_Law_law_20 : decode c_Law_law 20 = .ok (.iconst 0, 1) := by decide +kernel
theorem d_Law_law_21 : decode c_Law_law 21 = .ok (.istore 4, 2) := by decide +kernel
theorem d_Law_law_23 : decode c_Law_law 23 = .ok (.iload 4, 2) := by decide +kernel
theorem d_Law_law_25 : decode c_Law_law 25 = .ok (.aload_n 0, 1) := by decide +kernel
theorem d_Law_law_26 : decode c_Law_law 26 = .ok (.arraylength, 1) := by decide +kernel
theorem d_Law_law_27 : decode c_Law_law 27 = .ok (.bipush 6, 2) := by decide +kernel
theorem d_Law_law_29 : decode c_Law_law 29 = .ok (.isub, 1) := by decide +kernel
theorem d_Law_law_30 : decode c_Law_law 30 = .ok (.if_icmp .gt 832, 3) := by decide +kernel
theorem d_Law_law_33 : decode c_Law_law 33 = .ok (.aload_n 0, 1) := by decide +kernel
theorem d_Law_law_34 : decode c_Law_law 34 = .ok (.iload 4, 2) := by decide +kernel
theorem d_Law_law_36 : decode c_Law_law 36 = .ok (.iaload, 1) := by decide +kernel
theorem d_Law_law_37 : decode c_Law_law 37 = .ok (.bipush 15, 2) := by decide +kernel
theorem d_Law_law_39 : decode c_Law_law 39 = .ok (.iand, 1) := by decide +kernel
theorem d_Law_law_40 : decode c_Law_law 40 = .ok (.tableswitch 816 0 12 #[68, 93, 106, 210, 254, 279, 347, 415, 495, 587, 691, 735, 791], 68) := by decide +kernel
theorem d_Law_law_108 : decode c_Law_law 108 = .ok (.aload_n 1, 1) := by decide +kernel
theorem d_Law_law_109 : decode c_Law_law 109 = .ok (.aload_n 0, 1) := by decide +kernel
theorem d_Law_law_110 : decode c_Law_law 110 = .ok (.iload 4, 2) := by decide +kernel
theorem d_Law_law_112 : decode c_Law_law 112 = .ok (.iconst 1, 1) := by decide +kernel
theorem d_Law_law_113 : decode c_Law_law 113 = .ok (.iadd, 1) := by decide +kernel
theorem d_Law_law_114 : decode c_Law_law 114 = .ok (.iaload, 1) := by decide +kernel
theorem d_Law_law_115 : decode c_Law_law 115 = .ok (.invokevirtual 54, 3) := by decide +kernel
theorem d_Law_law_118 : decode c_Law_law 118 = .ok (.aload_n 2, 1) := by decide +kernel
theorem d_Law_law_119 : decode c_Law_law 119 = .ok (.aload_n 0, 1) := by decide +kernel
theorem d_Law_law_120 : decode c_Law_law 120 = .ok (.iload 4, 2) := by decide +kernel
theorem d_Law_law_122 : decode c_Law_law 122 = .ok (.iconst 1, 1) := by decide +kernel
theorem d_Law_law_123 : decode c_Law_law 123 = .ok (.iadd, 1) := by decide +kernel
theorem d_Law_law_124 : decode c_Law_law 124 = .ok (.iaload, 1) := by decide +kernel
theorem d_Law_law_125 : decode c_Law_law 125 = .ok (.invokevirtual 58, 3) := by decide +kernel
theorem d_Law_law_128 : decode c_Law_law 128 = .ok (.if_icmp .eq 728, 3) := by decide +kernel
theorem d_Law_law_131 : decode c_Law_law 131 = .ok (.iconst 0, 1) := by decide +kernel
theorem d_Law_law_132 : decode c_Law_law 132 = .ok (.ireturn, 1) := by decide +kernel
theorem d_Law_law_133 : decode c_Law_law 133 = .ok (.aload_n 1, 1) := by decide +kernel
theorem d_Law_law_134 : decode c_Law_law 134 = .ok (.invokevirtual 59, 3) := by decide +kernel
theorem d_Law_law_137 : decode c_Law_law 137 = .ok (.aload_n 2, 1) := by decide +kernel
theorem d_Law_law_138 : decode c_Law_law 138 = .ok (.invokevirtual 62, 3) := by decide +kernel
theorem d_Law_law_141 : decode c_Law_law 141 = .ok (.if_icmp .eq 715, 3) := by decide +kernel
theorem d_Law_law_144 : decode c_Law_law 144 = .ok (.iconst 0, 1) := by decide +kernel
theorem d_Law_law_145 : decode c_Law_law 145 = .ok (.ireturn, 1) := by decide +kernel
theorem d_Law_law_146 : decode c_Law_law 146 = .ok (.aload_n 1, 1) := by decide +kernel
theorem d_Law_law_147 : decode c_Law_law 147 = .ok (.aload_n 0, 1) := by decide +kernel
theorem d_Law_law_148 : decode c_Law_law 148 = .ok (.iload 4, 2) := by decide +kernel
theorem d_Law_law_150 : decode c_Law_law 150 = .ok (.iconst 1, 1) := by decide +kernel
theorem d_Law_law_151 : decode c_Law_law 151 = .ok (.iadd, 1) := by decide +kernel
theorem d_Law_law_152 : decode c_Law_law 152 = .ok (.iaload, 1) := by decide +kernel
theorem d_Law_law_153 : decode c_Law_law 153 = .ok (.aload_n 0, 1) := by decide +kernel
theorem d_Law_law_154 : decode c_Law_law 154 = .ok (.iload 4, 2) := by decide +kernel
theorem d_Law_law_156 : decode c_Law_law 156 = .ok (.iconst 2, 1) := by decide +kernel
theorem d_Law_law_157 : decode c_Law_law 157 = .ok (.iadd, 1) := by decide +kernel
theorem d_Law_law_158 : decode c_Law_law 158 = .ok (.iaload, 1) := by decide +kernel
theorem d_Law_law_159 : decode c_Law_law 159 = .ok (.aload_n 0, 1) := by decide +kernel
theorem d_Law_law_160 : decode c_Law_law 160 = .ok (.iload 4, 2) := by decide +kernel
theorem d_Law_law_162 : decode c_Law_law 162 = .ok (.iconst 3, 1) := by decide +kernel
theorem d_Law_law_163 : decode c_Law_law 163 = .ok (.iadd, 1) := by decide +kernel
theorem d_Law_law_164 : decode c_Law_law 164 = .ok (.iaload, 1) := by decide +kernel
theorem d_Law_law_165 : decode c_Law_law 165 = .ok (.aload_n 0, 1) := by decide +kernel
theorem d_Law_law_166 : decode c_Law_law 166 = .ok (.iload 4, 2) := by decide +kernel
theorem d_Law_law_168 : decode c_Law_law 168 = .ok (.iconst 4, 1) := by decide +kernel
theorem d_Law_law_169 : decode c_Law_law 169 = .ok (.iadd, 1) := by decide +kernel
theorem d_Law_law_170 : decode c_Law_law 170 = .ok (.iaload, 1) := by decide +kernel
theorem d_Law_law_171 : decode c_Law_law 171 = .ok (.aload_n 0, 1) := by decide +kernel
theorem d_Law_law_172 : decode c_Law_law 172 = .ok (.iload 4, 2) := by decide +kernel
theorem d_Law_law_174 : decode c_Law_law 174 = .ok (.iconst 5, 1) := by decide +kernel
theorem d_Law_law_175 : decode c_Law_law 175 = .ok (.iadd, 1) := by decide +kernel
theorem d_Law_law_176 : decode c_Law_law 176 = .ok (.iaload, 1) := by decide +kernel
theorem d_Law_law_177 : decode c_Law_law 177 = .ok (.aload_n 3, 1) := by decide +kernel
theorem d_Law_law_178 : decode c_Law_law 178 = .ok (.invokestatic 63, 3) := by decide +kernel
theorem d_Law_law_181 : decode c_Law_law 181 = .ok (.istore 5, 2) := by decide +kernel
theorem d_Law_law_183 : decode c_Law_law 183 = .ok (.aload_n 2, 1) := by decide +kernel
theorem d_Law_law_184 : decode c_Law_law 184 = .ok (.aload_n 0, 1) := by decide +kernel
theorem d_Law_law_185 : decode c_Law_law 185 = .ok (.iload 4, 2) := by decide +kernel
theorem d_Law_law_187 : decode c_Law_law 187 = .ok (.iconst 1, 1) := by decide +kernel
theorem d_Law_law_188 : decode c_Law_law 188 = .ok (.iadd, 1) := by decide +kernel
theorem d_Law_law_189 : decode c_Law_law 189 = .ok (.iaload, 1) := by decide +kernel
theorem d_Law_law_190 : decode c_Law_law 190 = .ok (.aload_n 0, 1) := by decide +kernel
theorem d_Law_law_191 : decode c_Law_law 191 = .ok (.iload 4, 2) := by decide +kernel
theorem d_Law_law_193 : decode c_Law_law 193 = .ok (.iconst 2, 1) := by decide +kernel
theorem d_Law_law_194 : decode c_Law_law 194 = .ok (.iadd, 1) := by decide +kernel
theorem d_Law_law_195 : decode c_Law_law 195 = .ok (.iaload, 1) := by decide +kernel
theorem d_Law_law_196 : decode c_Law_law 196 = .ok (.aload_n 0, 1) := by decide +kernel
theorem d_Law_law_197 : decode c_Law_law 197 = .ok (.iload 4, 2) := by decide +kernel
theorem d_Law_law_199 : decode c_Law_law 199 = .ok (.iconst 3, 1) := by decide +kernel
theorem d_Law_law_200 : decode c_Law_law 200 = .ok (.iadd, 1) := by decide +kernel
theorem d_Law_law_201 : decode c_Law_law 201 = .ok (.iaload, 1) := by decide +kernel
theorem d_Law_law_202 : decode c_Law_law 202 = .ok (.aload_n 0, 1) := by decide +kernel
theorem d_Law_law_203 : decode c_Law_law 203 = .ok (.iload 4, 2) := by decide +kernel
theorem d_Law_law_205 : decode c_Law_law 205 = .ok (.iconst 4, 1) := by decide +kernel
theorem d_Law_law_206 : decode c_Law_law 206 = .ok (.iadd, 1) := by decide +kernel
theorem d_Law_law_207 : decode c_Law_law 207 = .ok (.iaload, 1) := by decide +kernel
theorem d_Law_law_208 : decode c_Law_law 208 = .ok (.aload_n 0, 1) := by decide +kernel
theorem d_Law_law_209 : decode c_Law_law 209 = .ok (.iload 4, 2) := by decide +kernel
theorem d_Law_law_211 : decode c_Law_law 211 = .ok (.iconst 5, 1) := by decide +kernel
theorem d_Law_law_212 : decode c_Law_law 212 = .ok (.iadd, 1) := by decide +kernel
theorem d_Law_law_213 : decode c_Law_law 213 = .ok (.iaload, 1) := by decide +kernel
theorem d_Law_law_214 : decode c_Law_law 214 = .ok (.invokevirtual 68, 3) := by decide +kernel
theorem d_Law_law_217 : decode c_Law_law 217 = .ok (.istore 6, 2) := by decide +kernel
theorem d_Law_law_219 : decode c_Law_law 219 = .ok (.aload_n 2, 1) := by decide +kernel
theorem d_Law_law_220 : decode c_Law_law 220 = .ok (.invokevirtual 69, 3) := by decide +kernel
theorem d_Law_law_223 : decode c_Law_law 223 = .ok (.iload 5, 2) := by decide +kernel
theorem d_Law_law_225 : decode c_Law_law 225 = .ok (.if_icmp .eq 5, 3) := by decide +kernel
theorem d_Law_law_228 : decode c_Law_law 228 = .ok (.iconst 0, 1) := by decide +kernel
theorem d_Law_law_229 : decode c_Law_law 229 = .ok (.ireturn, 1) := by decide +kernel
theorem d_Law_law_230 : decode c_Law_law 230 = .ok (.iload 5, 2) := by decide +kernel
theorem d_Law_law_232 : decode c_Law_law 232 = .ok (.ifCond .ne 15, 3) := by decide +kernel
theorem d_Law_law_235 : decode c_Law_law 235 = .ok (.aload_n 3, 1) := by decide +kernel
theorem d_Law_law_236 : decode c_Law_law 236 = .ok (.iconst 0, 1) := by decide +kernel
theorem d_Law_law_237 : decode c_Law_law 237 = .ok (.laload, 1) := by decide +kernel
theorem d_Law_law_238 : decode c_Law_law 238 = .ok (.iload 6, 2) := by decide +kernel
theorem d_Law_law_240 : decode c_Law_law 240 = .ok (.i2l, 1) := by decide +kernel
theorem d_Law_law_241 : decode c_Law_law 241 = .ok (.lcmp, 1) := by decide +kernel
theorem d_Law_law_242 : decode c_Law_law 242 = .ok (.ifCond .eq 5, 3) := by decide +kernel
theorem d_Law_law_245 : decode c_Law_law 245 = .ok (.iconst 0, 1) := by decide +kernel
theorem d_Law_law_246 : decode c_Law_law 246 = .ok (.ireturn, 1) := by decide +kernel
theorem d_Law_law_247 : decode c_Law_law 247 = .ok (.goto 609, 3) := by decide +kernel
theorem d_Law_law_250 : decode c_Law_law 250 = .ok (.aload_n 1, 1) := by decide +kernel
theorem d_Law_law_251 : decode c_Law_law 251 = .ok (.aload_n 3, 1) := by decide +kernel
theorem d_Law_law_252 : decode c_Law_law 252 = .ok (.invokestatic 72, 3) := by decide +kernel
theorem d_Law_law_255 : decode c_Law_law 255 = .ok (.istore 5, 2) := by decide +kernel
theorem d_Law_law_257 : decode c_Law_law 257 = .ok (.aload_n 2, 1) := by decide +kernel
theorem d_Law_law_258 : decode c_Law_law 258 = .ok (.invokevirtual 75, 3) := by decide +kernel
theorem d_Law_law_261 : decode c_Law_law 261 = .ok (.istore 6, 2) := by decide +kernel
theorem d_Law_law_263 : decode c_Law_law 263 = .ok (.aload_n 2, 1) := by decide +kernel
theorem d_Law_law_264 : decode c_Law_law 264 = .ok (.invokevirtual 69, 3) := by decide +kernel
