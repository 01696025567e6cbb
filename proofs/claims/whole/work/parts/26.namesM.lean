abbrev cM_asked : ByteArray := prog_11_method_34_code
def yM_asked : MethodName := ⟨"WordCheckerModel", "asked", "(I)I"⟩
theorem calM_asked : CalS gT yM_asked cM_asked 1 (some .int) 1 := ⟨⟨gT_1 (i := 933) (by decide +kernel) rfl, gT_1 (i := 8) (by decide +kernel) rfl, by decide +kernel⟩, gT_1 (i := 932) (by decide +kernel) rfl⟩
theorem dM_asked_0 : decode cM_asked 0 = .ok (.iload_n 0, 1) := by decide +kernel
theorem dM_asked_1 : decode cM_asked 1 = .ok (.bipush 6, 2) := by decide +kernel
theorem dM_asked_3 : decode cM_asked 3 = .ok (.if_icmp .eq 21, 3) := by decide +kernel
theorem dM_asked_6 : decode cM_asked 6 = .ok (.iload_n 0, 1) := by decide +kernel
theorem dM_asked_7 : decode cM_asked 7 = .ok (.bipush 17, 2) := by decide +kernel
theorem dM_asked_9 : decode cM_asked 9 = .ok (.if_icmp .eq 15, 3) := by decide +kernel
theorem dM_asked_12 : decode cM_asked 12 = .ok (.iload_n 0, 1) := by decide +kernel
theorem dM_asked_13 : decode cM_asked 13 = .ok (.bipush 18, 2) := by decide +kernel
theorem dM_asked_15 : decode cM_asked 15 = .ok (.if_icmp .eq 9, 3) := by decide +kernel
theorem dM_asked_18 : decode cM_asked 18 = .ok (.iload_n 0, 1) := by decide +kernel
theorem dM_asked_19 : decode cM_asked 19 = .ok (.bipush 19, 2) := by decide +kernel
theorem dM_asked_21 : decode cM_asked 21 = .ok (.if_icmp .ne 7, 3) := by decide +kernel
theorem dM_asked_24 : decode cM_asked 24 = .ok (.iconst 1, 1) := by decide +kernel
theorem dM_asked_25 : decode cM_asked 25 = .ok (.goto 24, 3) := by decide +kernel
theorem dM_asked_28 : decode cM_asked 28 = .ok (.iload_n 0, 1) := by decide +kernel
theorem dM_asked_29 : decode cM_asked 29 = .ok (.bipush 26, 2) := by decide +kernel
theorem dM_asked_31 : decode cM_asked 31 = .ok (.if_icmp .ne 7, 3) := by decide +kernel
theorem dM_asked_34 : decode cM_asked 34 = .ok (.iconst 3, 1) := by decide +kernel
theorem dM_asked_35 : decode cM_asked 35 = .ok (.goto 14, 3) := by decide +kernel
theorem dM_asked_38 : decode cM_asked 38 = .ok (.iload_n 0, 1) := by decide +kernel
theorem dM_asked_39 : decode cM_asked 39 = .ok (.bipush 24, 2) := by decide +kernel
theorem dM_asked_41 : decode cM_asked 41 = .ok (.if_icmp .ne 7, 3) := by decide +kernel
theorem dM_asked_44 : decode cM_asked 44 = .ok (.iconst 0, 1) := by decide +kernel
theorem dM_asked_45 : decode cM_asked 45 = .ok (.goto 4, 3) := by decide +kernel
theorem dM_asked_48 : decode cM_asked 48 = .ok (.iconst 2, 1) := by decide +kernel
theorem dM_asked_49 : decode cM_asked 49 = .ok (.ireturn, 1) := by decide +kernel
abbrev cM_readLine : ByteArray := prog_11_method_35_code
def yM_readLine : MethodName := ⟨"WordCheckerModel", "readLine", "()Z"⟩
theorem calM_readLine : CalV gT yM_readLine cM_readLine 7 (some .boolean) 0 := ⟨⟨gT_1 (i := 816) (by decide +kernel) rfl, gT_1 (i := 8) (by decide +kernel) rfl, by decide +kernel⟩, gT_1 (i := 815) (by decide +kernel) rfl, gT_s (q := (yM_readLine, 28)) (by decide +kernel)⟩
theorem dM_readLine_0 : decode cM_readLine 0 = .ok (.aload_n 0, 1) := by decide +kernel
theorem dM_readLine_1 : decode cM_readLine 1 = .ok (.iconst 0, 1) := by decide +kernel
theorem dM_readLine_2 : decode cM_readLine 2 = .ok (.putfield 158, 3) := by decide +kernel
theorem dM_readLine_5 : decode cM_readLine 5 = .ok (.aload_n 0, 1) := by decide +kernel
theorem dM_readLine_6 : decode cM_readLine 6 = .ok (.iconst 0, 1) := by decide +kernel
theorem dM_readLine_7 : decode cM_readLine 7 = .ok (.invokevirtual 161, 3) := by decide +kernel
theorem dM_readLine_10 : decode cM_readLine 10 = .ok (.istore_n 1, 1) := by decide +kernel
theorem dM_readLine_11 : decode cM_readLine 11 = .ok (.aload_n 0, 1) := by decide +kernel
theorem dM_readLine_12 : decode cM_readLine 12 = .ok (.getfield 19, 3) := by decide +kernel
theorem dM_readLine_15 : decode cM_readLine 15 = .ok (.aload_n 0, 1) := by decide +kernel
theorem dM_readLine_16 : decode cM_readLine 16 = .ok (.getfield 155, 3) := by decide +kernel
theorem dM_readLine_19 : decode cM_readLine 19 = .ok (.iload_n 1, 1) := by decide +kernel
theorem dM_readLine_20 : decode cM_readLine 20 = .ok (.iastore, 1) := by decide +kernel
theorem dM_readLine_21 : decode cM_readLine 21 = .ok (.aload_n 0, 1) := by decide +kernel
theorem dM_readLine_22 : decode cM_readLine 22 = .ok (.iload_n 1, 1) := by decide +kernel
theorem dM_readLine_23 : decode cM_readLine 23 = .ok (.iconst 1, 1) := by decide +kernel
theorem dM_readLine_24 : decode cM_readLine 24 = .ok (.if_icmp .lt 29, 3) := by decide +kernel
theorem dM_readLine_27 : decode cM_readLine 27 = .ok (.aload_n 0, 1) := by decide +kernel
theorem dM_readLine_28 : decode cM_readLine 28 = .ok (.getfield 155, 3) := by decide +kernel
theorem dM_readLine_31 : decode cM_readLine 31 = .ok (.ifCond .eq 18, 3) := by decide +kernel
theorem dM_readLine_34 : decode cM_readLine 34 = .ok (.iload_n 1, 1) := by decide +kernel
theorem dM_readLine_35 : decode cM_readLine 35 = .ok (.aload_n 0, 1) := by decide +kernel
theorem dM_readLine_36 : decode cM_readLine 36 = .ok (.getfield 19, 3) := by decide +kernel
theorem dM_readLine_39 : decode cM_readLine 39 = .ok (.aload_n 0, 1) := by decide +kernel
theorem dM_readLine_40 : decode cM_readLine 40 = .ok (.getfield 155, 3) := by decide +kernel
theorem dM_readLine_43 : decode cM_readLine 43 = .ok (.iconst 1, 1) := by decide +kernel
theorem dM_readLine_44 : decode cM_readLine 44 = .ok (.isub, 1) := by decide +kernel
theorem dM_readLine_45 : decode cM_readLine 45 = .ok (.iaload, 1) := by decide +kernel
theorem dM_readLine_46 : decode cM_readLine 46 = .ok (.if_icmp .le 7, 3) := by decide +kernel
theorem dM_readLine_49 : decode cM_readLine 49 = .ok (.iconst 1, 1) := by decide +kernel
theorem dM_readLine_50 : decode cM_readLine 50 = .ok (.goto 4, 3) := by decide +kernel
theorem dM_readLine_53 : decode cM_readLine 53 = .ok (.iconst 0, 1) := by decide +kernel
theorem dM_readLine_54 : decode cM_readLine 54 = .ok (.invokevirtual 184, 3) := by decide +kernel
theorem dM_readLine_57 : decode cM_readLine 57 = .ok (.ifCond .ne 5, 3) := by decide +kernel
theorem dM_readLine_60 : decode cM_readLine 60 = .ok (.iconst 0, 1) := by decide +kernel
theorem dM_readLine_61 : decode cM_readLine 61 = .ok (.ireturn, 1) := by decide +kernel
theorem dM_readLine_62 : decode cM_readLine 62 = .ok (.aload_n 0, 1) := by decide +kernel
theorem dM_readLine_63 : decode cM_readLine 63 = .ok (.iconst 1, 1) := by decide +kernel
theorem dM_readLine_64 : decode cM_readLine 64 = .ok (.invokevirtual 191, 3) := by decide +kernel
theorem dM_readLine_67 : decode cM_readLine 67 = .ok (.invokestatic 246, 3) := by decide +kernel
theorem dM_readLine_70 : decode cM_readLine 70 = .ok (.istore_n 2, 1) := by decide +kernel
theorem dM_readLine_71 : decode cM_readLine 71 = .ok (.aload_n 0, 1) := by decide +kernel
theorem dM_readLine_72 : decode cM_readLine 72 = .ok (.getfield 22, 3) := by decide +kernel
theorem dM_readLine_75 : decode cM_readLine 75 = .ok (.aload_n 0, 1) := by decide +kernel
theorem dM_readLine_76 : decode cM_readLine 76 = .ok (.getfield 155, 3) := by decide +kernel
theorem dM_readLine_79 : decode cM_readLine 79 = .ok (.iload_n 2, 1) := by decide +kernel
theorem dM_readLine_80 : decode cM_readLine 80 = .ok (.iastore, 1) := by decide +kernel
theorem dM_readLine_81 : decode cM_readLine 81 = .ok (.iconst 0, 1) := by decide +kernel
theorem dM_readLine_82 : decode cM_readLine 82 = .ok (.istore_n 3, 1) := by decide +kernel
theorem dM_readLine_83 : decode cM_readLine 83 = .ok (.iconst 0, 1) := by decide +kernel
theorem dM_readLine_84 : decode cM_readLine 84 = .ok (.istore 4, 2) := by decide +kernel
theorem dM_readLine_86 : decode cM_readLine 86 = .ok (.iload 4, 2) := by decide +kernel
theorem dM_readLine_88 : decode cM_readLine 88 = .ok (.aload_n 0, 1) := by decide +kernel
theorem dM_readLine_89 : decode cM_readLine 89 = .ok (.getfield 155, 3) := by decide +kernel
theorem dM_readLine_92 : decode cM_readLine 92 = .ok (.if_icmp .ge 34, 3) := by decide +kernel
theorem dM_readLine_95 : decode cM_readLine 95 = .ok (.aload_n 0, 1) := by decide +kernel
theorem dM_readLine_96 : decode cM_readLine 96 = .ok (.getfield 22, 3) := by decide +kernel
theorem dM_readLine_99 : decode cM_readLine 99 = .ok (.iload 4, 2) := by decide +kernel
theorem dM_readLine_101 : decode cM_readLine 101 = .ok (.iaload, 1) := by decide +kernel
theorem dM_readLine_102 : decode cM_readLine 102 = .ok (.bipush 12, 2) := by decide +kernel
theorem dM_readLine_104 : decode cM_readLine 104 = .ok (.bipush 14, 2) := by decide +kernel
theorem dM_readLine_106 : decode cM_readLine 106 = .ok (.invokestatic 75, 3) := by decide +kernel
theorem dM_readLine_109 : decode cM_readLine 109 = .ok (.ifCond .eq 9, 3) := by decide +kernel
theorem dM_readLine_112 : decode cM_readLine 112 = .ok (.iload_n 3, 1) := by decide +kernel
theorem dM_readLine_113 : decode cM_readLine 113 = .ok (.iconst 1, 1) := by decide +kernel
theorem dM_readLine_114 : decode cM_readLine 114 = .ok (.iadd, 1) := by decide +kernel
theorem dM_readLine_115 : decode cM_readLine 115 = .ok (.goto 4, 3) := by decide +kernel
theorem dM_readLine_118 : decode cM_readLine 118 = .ok (.iload_n 3, 1) := by decide +kernel
theorem dM_readLine_119 : decode cM_readLine 119 = .ok (.istore_n 3, 1) := by decide +kernel
theorem dM_readLine_120 : decode cM_readLine 120 = .ok (.iinc 4 1, 3) := by decide +kernel
theorem dM_readLine_123 : decode cM_readLine 123 = .ok (.goto (-37), 3) := by decide +kernel
theorem dM_readLine_126 : decode cM_readLine 126 = .ok (.aload_n 0, 1) := by decide +kernel
theorem dM_readLine_127 : decode cM_readLine 127 = .ok (.iload_n 2, 1) := by decide +kernel
theorem dM_readLine_128 : decode cM_readLine 128 = .ok (.ifCond .lt 23, 3) := by decide +kernel
theorem dM_readLine_131 : decode cM_readLine 131 = .ok (.iload_n 2, 1) := by decide +kernel
theorem dM_readLine_132 : decode cM_readLine 132 = .ok (.bipush 12, 2) := by decide +kernel
theorem dM_readLine_134 : decode cM_readLine 134 = .ok (.bipush 14, 2) := by decide +kernel
theorem dM_readLine_136 : decode cM_readLine 136 = .ok (.invokestatic 75, 3) := by decide +kernel
theorem dM_readLine_139 : decode cM_readLine 139 = .ok (.ifCond .eq 8, 3) := by decide +kernel
theorem dM_readLine_142 : decode cM_readLine 142 = .ok (.iload_n 3, 1) := by decide +kernel
theorem dM_readLine_143 : decode cM_readLine 143 = .ok (.iconst 2, 1) := by decide +kernel
theorem dM_readLine_144 : decode cM_readLine 144 = .ok (.if_icmp .ge 7, 3) := by decide +kernel
theorem dM_readLine_147 : decode cM_readLine 147 = .ok (.iconst 1, 1) := by decide +kernel
theorem dM_readLine_148 : decode cM_readLine 148 = .ok (.goto 4, 3) := by decide +kernel
theorem dM_readLine_151 : decode cM_readLine 151 = .ok (.iconst 0, 1) := by decide +kernel
theorem dM_readLine_152 : decode cM_readLine 152 = .ok (.invokevirtual 184, 3) := by decide +kernel
theorem dM_readLine_155 : decode cM_readLine 155 = .ok (.ifCond .ne 5, 3) := by decide +kernel
theorem dM_readLine_158 : decode cM_readLine 158 = .ok (.iconst 0, 1) := by decide +kernel
theorem dM_readLine_159 : decode cM_readLine 159 = .ok (.ireturn, 1) := by decide +kernel
theorem dM_readLine_160 : decode cM_readLine 160 = .ok (.aload_n 0, 1) := by decide +kernel
theorem dM_readLine_161 : decode cM_readLine 161 = .ok (.getfield 28, 3) := by decide +kernel
theorem dM_readLine_164 : decode cM_readLine 164 = .ok (.aload_n 0, 1) := by decide +kernel
theorem dM_readLine_165 : decode cM_readLine 165 = .ok (.getfield 155, 3) := by decide +kernel
theorem dM_readLine_168 : decode cM_readLine 168 = .ok (.iconst (-1), 1) := by decide +kernel
theorem dM_readLine_169 : decode cM_readLine 169 = .ok (.iastore, 1) := by decide +kernel
theorem dM_readLine_170 : decode cM_readLine 170 = .ok (.aload_n 0, 1) := by decide +kernel
theorem dM_readLine_171 : decode cM_readLine 171 = .ok (.getfield 31, 3) := by decide +kernel
theorem dM_readLine_174 : decode cM_readLine 174 = .ok (.aload_n 0, 1) := by decide +kernel
theorem dM_readLine_175 : decode cM_readLine 175 = .ok (.getfield 155, 3) := by decide +kernel
theorem dM_readLine_178 : decode cM_readLine 178 = .ok (.iconst (-1), 1) := by decide +kernel
theorem dM_readLine_179 : decode cM_readLine 179 = .ok (.iastore, 1) := by decide +kernel
theorem dM_readLine_180 : decode cM_readLine 180 = .ok (.aload_n 0, 1) := by decide +kernel
theorem dM_readLine_181 : decode cM_readLine 181 = .ok (.getfield 34, 3) := by decide +kernel
theorem dM_readLine_184 : decode cM_readLine 184 = .ok (.aload_n 0, 1) := by decide +kernel
theorem dM_readLine_185 : decode cM_readLine 185 = .ok (.getfield 155, 3) := by decide +kernel
theorem dM_readLine_188 : decode cM_readLine 188 = .ok (.iconst (-1), 1) := by decide +kernel
theorem dM_readLine_189 : decode cM_readLine 189 = .ok (.iastore, 1) := by decide +kernel
theorem dM_readLine_190 : decode cM_readLine 190 = .ok (.aload_n 0, 1) := by decide +kernel
theorem dM_readLine_191 : decode cM_readLine 191 = .ok (.getfield 37, 3) := by decide +kernel
theorem dM_readLine_194 : decode cM_readLine 194 = .ok (.aload_n 0, 1) := by decide +kernel
theorem dM_readLine_195 : decode cM_readLine 195 = .ok (.getfield 155, 3) := by decide +kernel
theorem dM_readLine_198 : decode cM_readLine 198 = .ok (.iconst 0, 1) := by decide +kernel
theorem dM_readLine_199 : decode cM_readLine 199 = .ok (.bastore, 1) := by decide +kernel
theorem dM_readLine_200 : decode cM_readLine 200 = .ok (.aload_n 0, 1) := by decide +kernel
theorem dM_readLine_201 : decode cM_readLine 201 = .ok (.getfield 41, 3) := by decide +kernel
theorem dM_readLine_204 : decode cM_readLine 204 = .ok (.aload_n 0, 1) := by decide +kernel
theorem dM_readLine_205 : decode cM_readLine 205 = .ok (.getfield 155, 3) := by decide +kernel
theorem dM_readLine_208 : decode cM_readLine 208 = .ok (.iconst 0, 1) := by decide +kernel
theorem dM_readLine_209 : decode cM_readLine 209 = .ok (.bastore, 1) := by decide +kernel
theorem dM_readLine_210 : decode cM_readLine 210 = .ok (.aload_n 0, 1) := by decide +kernel
theorem dM_readLine_211 : decode cM_readLine 211 = .ok (.getfield 44, 3) := by decide +kernel
theorem dM_readLine_214 : decode cM_readLine 214 = .ok (.aload_n 0, 1) := by decide +kernel
theorem dM_readLine_215 : decode cM_readLine 215 = .ok (.getfield 155, 3) := by decide +kernel
theorem dM_readLine_218 : decode cM_readLine 218 = .ok (.iconst 0, 1) := by decide +kernel
theorem dM_readLine_219 : decode cM_readLine 219 = .ok (.bastore, 1) := by decide +kernel
theorem dM_readLine_220 : decode cM_readLine 220 = .ok (.iload_n 2, 1) := by decide +kernel
theorem dM_readLine_221 : decode cM_readLine 221 = .ok (.ifCond .ne 8, 3) := by decide +kernel
theorem dM_readLine_224 : decode cM_readLine 224 = .ok (.aload_n 0, 1) := by decide +kernel
theorem dM_readLine_225 : decode cM_readLine 225 = .ok (.invokevirtual 250, 3) := by decide +kernel
theorem dM_readLine_228 : decode cM_readLine 228 = .ok (.ireturn, 1) := by decide +kernel
theorem dM_readLine_229 : decode cM_readLine 229 = .ok (.iload_n 2, 1) := by decide +kernel
theorem dM_readLine_230 : decode cM_readLine 230 = .ok (.iconst 1, 1) := by decide +kernel
theorem dM_readLine_231 : decode cM_readLine 231 = .ok (.if_icmp .eq 8, 3) := by decide +kernel
theorem dM_readLine_234 : decode cM_readLine 234 = .ok (.iload_n 2, 1) := by decide +kernel
theorem dM_readLine_235 : decode cM_readLine 235 = .ok (.iconst 2, 1) := by decide +kernel
theorem dM_readLine_236 : decode cM_readLine 236 = .ok (.if_icmp .ne 9, 3) := by decide +kernel
theorem dM_readLine_239 : decode cM_readLine 239 = .ok (.aload_n 0, 1) := by decide +kernel
theorem dM_readLine_240 : decode cM_readLine 240 = .ok (.iload_n 2, 1) := by decide +kernel
theorem dM_readLine_241 : decode cM_readLine 241 = .ok (.invokevirtual 253, 3) := by decide +kernel
theorem dM_readLine_244 : decode cM_readLine 244 = .ok (.ireturn, 1) := by decide +kernel
theorem dM_readLine_245 : decode cM_readLine 245 = .ok (.iload_n 2, 1) := by decide +kernel
theorem dM_readLine_246 : decode cM_readLine 246 = .ok (.bipush 27, 2) := by decide +kernel
theorem dM_readLine_248 : decode cM_readLine 248 = .ok (.if_icmp .eq 9, 3) := by decide +kernel
theorem dM_readLine_251 : decode cM_readLine 251 = .ok (.iload_n 2, 1) := by decide +kernel
theorem dM_readLine_252 : decode cM_readLine 252 = .ok (.bipush 28, 2) := by decide +kernel
theorem dM_readLine_254 : decode cM_readLine 254 = .ok (.if_icmp .ne 9, 3) := by decide +kernel
theorem dM_readLine_257 : decode cM_readLine 257 = .ok (.aload_n 0, 1) := by decide +kernel
theorem dM_readLine_258 : decode cM_readLine 258 = .ok (.iload_n 2, 1) := by decide +kernel
theorem dM_readLine_259 : decode cM_readLine 259 = .ok (.invokevirtual 256, 3) := by decide +kernel
theorem dM_readLine_262 : decode cM_readLine 262 = .ok (.ireturn, 1) := by decide +kernel
theorem dM_readLine_263 : decode cM_readLine 263 = .ok (.iload_n 2, 1) := by decide +kernel
theorem dM_readLine_264 : decode cM_readLine 264 = .ok (.bipush 29, 2) := by decide +kernel
theorem dM_readLine_266 : decode cM_readLine 266 = .ok (.if_icmp .lt 9, 3) := by decide +kernel
theorem dM_readLine_269 : decode cM_readLine 269 = .ok (.aload_n 0, 1) := by decide +kernel
theorem dM_readLine_270 : decode cM_readLine 270 = .ok (.iconst 1, 1) := by decide +kernel
theorem dM_readLine_271 : decode cM_readLine 271 = .ok (.invokevirtual 217, 3) := by decide +kernel
theorem dM_readLine_274 : decode cM_readLine 274 = .ok (.ireturn, 1) := by decide +kernel
theorem dM_readLine_275 : decode cM_readLine 275 = .ok (.aload_n 0, 1) := by decide +kernel
theorem dM_readLine_276 : decode cM_readLine 276 = .ok (.invokevirtual 199, 3) := by decide +kernel
theorem dM_readLine_279 : decode cM_readLine 279 = .ok (.istore 4, 2) := by decide +kernel
theorem dM_readLine_281 : decode cM_readLine 281 = .ok (.aload_n 0, 1) := by decide +kernel
theorem dM_readLine_282 : decode cM_readLine 282 = .ok (.getfield 25, 3) := by decide +kernel
theorem dM_readLine_285 : decode cM_readLine 285 = .ok (.aload_n 0, 1) := by decide +kernel
theorem dM_readLine_286 : decode cM_readLine 286 = .ok (.getfield 155, 3) := by decide +kernel
theorem dM_readLine_289 : decode cM_readLine 289 = .ok (.iload 4, 2) := by decide +kernel
theorem dM_readLine_291 : decode cM_readLine 291 = .ok (.iastore, 1) := by decide +kernel
theorem dM_readLine_292 : decode cM_readLine 292 = .ok (.iload_n 2, 1) := by decide +kernel
theorem dM_readLine_293 : decode cM_readLine 293 = .ok (.invokestatic 259, 3) := by decide +kernel
theorem dM_readLine_296 : decode cM_readLine 296 = .ok (.istore 5, 2) := by decide +kernel
theorem dM_readLine_298 : decode cM_readLine 298 = .ok (.iload 4, 2) := by decide +kernel
theorem dM_readLine_300 : decode cM_readLine 300 = .ok (.ifCond .lt 57, 3) := by decide +kernel
theorem dM_readLine_303 : decode cM_readLine 303 = .ok (.iload 5, 2) := by decide +kernel
theorem dM_readLine_305 : decode cM_readLine 305 = .ok (.ifCond .eq 48, 3) := by decide +kernel
theorem dM_readLine_308 : decode cM_readLine 308 = .ok (.iload 5, 2) := by decide +kernel
theorem dM_readLine_310 : decode cM_readLine 310 = .ok (.iconst 3, 1) := by decide +kernel
theorem dM_readLine_311 : decode cM_readLine 311 = .ok (.if_icmp .ne 16, 3) := by decide +kernel
theorem dM_readLine_314 : decode cM_readLine 314 = .ok (.aload_n 0, 1) := by decide +kernel
theorem dM_readLine_315 : decode cM_readLine 315 = .ok (.getfield 53, 3) := by decide +kernel
theorem dM_readLine_318 : decode cM_readLine 318 = .ok (.iload 4, 2) := by decide +kernel
theorem dM_readLine_320 : decode cM_readLine 320 = .ok (.baload, 1) := by decide +kernel
theorem dM_readLine_321 : decode cM_readLine 321 = .ok (.ifCond .eq 36, 3) := by decide +kernel
theorem dM_readLine_324 : decode cM_readLine 324 = .ok (.goto 29, 3) := by decide +kernel
theorem dM_readLine_327 : decode cM_readLine 327 = .ok (.aload_n 0, 1) := by decide +kernel
theorem dM_readLine_328 : decode cM_readLine 328 = .ok (.iload 4, 2) := by decide +kernel
theorem dM_readLine_330 : decode cM_readLine 330 = .ok (.invokevirtual 188, 3) := by decide +kernel
theorem dM_readLine_333 : decode cM_readLine 333 = .ok (.ifCond .eq 24, 3) := by decide +kernel
theorem dM_readLine_336 : decode cM_readLine 336 = .ok (.iload 5, 2) := by decide +kernel
theorem dM_readLine_338 : decode cM_readLine 338 = .ok (.iconst 2, 1) := by decide +kernel
theorem dM_readLine_339 : decode cM_readLine 339 = .ok (.if_icmp .eq 14, 3) := by decide +kernel
theorem dM_readLine_342 : decode cM_readLine 342 = .ok (.aload_n 0, 1) := by decide +kernel
theorem dM_readLine_343 : decode cM_readLine 343 = .ok (.getfield 56, 3) := by decide +kernel
theorem dM_readLine_346 : decode cM_readLine 346 = .ok (.iload 4, 2) := by decide +kernel
theorem dM_readLine_348 : decode cM_readLine 348 = .ok (.iaload, 1) := by decide +kernel
theorem dM_readLine_349 : decode cM_readLine 349 = .ok (.iconst 1, 1) := by decide +kernel
theorem dM_readLine_350 : decode cM_readLine 350 = .ok (.if_icmp .ne 7, 3) := by decide +kernel
theorem dM_readLine_353 : decode cM_readLine 353 = .ok (.iconst 1, 1) := by decide +kernel
theorem dM_readLine_354 : decode cM_readLine 354 = .ok (.goto 4, 3) := by decide +kernel
theorem dM_readLine_357 : decode cM_readLine 357 = .ok (.iconst 0, 1) := by decide +kernel
theorem dM_readLine_358 : decode cM_readLine 358 = .ok (.istore 6, 2) := by decide +kernel
theorem dM_readLine_360 : decode cM_readLine 360 = .ok (.aload_n 0, 1) := by decide +kernel
theorem dM_readLine_361 : decode cM_readLine 361 = .ok (.iload 6, 2) := by decide +kernel
theorem dM_readLine_363 : decode cM_readLine 363 = .ok (.invokevirtual 184, 3) := by decide +kernel
theorem dM_readLine_366 : decode cM_readLine 366 = .ok (.ifCond .eq 17, 3) := by decide +kernel
theorem dM_readLine_369 : decode cM_readLine 369 = .ok (.aload_n 0, 1) := by decide +kernel
theorem dM_readLine_370 : decode cM_readLine 370 = .ok (.iload_n 2, 1) := by decide +kernel
theorem dM_readLine_371 : decode cM_readLine 371 = .ok (.iload 4, 2) := by decide +kernel
theorem dM_readLine_373 : decode cM_readLine 373 = .ok (.invokevirtual 262, 3) := by decide +kernel
theorem dM_readLine_376 : decode cM_readLine 376 = .ok (.ifCond .eq 7, 3) := by decide +kernel
theorem dM_readLine_379 : decode cM_readLine 379 = .ok (.iconst 1, 1) := by decide +kernel
theorem dM_readLine_380 : decode cM_readLine 380 = .ok (.goto 4, 3) := by decide +kernel
theorem dM_readLine_383 : decode cM_readLine 383 = .ok (.iconst 0, 1) := by decide +kernel
theorem dM_readLine_384 : decode cM_readLine 384 = .ok (.ireturn, 1) := by decide +kernel
abbrev cM_line : ByteArray := prog_11_method_36_code
def yM_line : MethodName := ⟨"WordCheckerModel", "line", "()I"⟩
theorem calM_line : CalV gT yM_line cM_line 2 (some .int) 0 := ⟨⟨gT_1 (i := 808) (by decide +kernel) rfl, gT_1 (i := 8) (by decide +kernel) rfl, by decide +kernel⟩, gT_1 (i := 806) (by decide +kernel) rfl, gT_1 (i := 807) (by decide +kernel) rfl⟩
theorem dM_line_0 : decode cM_line 0 = .ok (.aload_n 0, 1) := by decide +kernel
theorem dM_line_1 : decode cM_line 1 = .ok (.invokevirtual 265, 3) := by decide +kernel
theorem dM_line_4 : decode cM_line 4 = .ok (.aload_n 0, 1) := by decide +kernel
theorem dM_line_5 : decode cM_line 5 = .ok (.invokevirtual 268, 3) := by decide +kernel
theorem dM_line_8 : decode cM_line 8 = .ok (.ifCond .eq 18, 3) := by decide +kernel
theorem dM_line_11 : decode cM_line 11 = .ok (.aload_n 0, 1) := by decide +kernel
theorem dM_line_12 : decode cM_line 12 = .ok (.getfield 158, 3) := by decide +kernel
theorem dM_line_15 : decode cM_line 15 = .ok (.aload_n 0, 1) := by decide +kernel
theorem dM_line_16 : decode cM_line 16 = .ok (.getfield 82, 3) := by decide +kernel
theorem dM_line_19 : decode cM_line 19 = .ok (.if_icmp .ne 7, 3) := by decide +kernel
theorem dM_line_22 : decode cM_line 22 = .ok (.iconst 1, 1) := by decide +kernel
theorem dM_line_23 : decode cM_line 23 = .ok (.goto 4, 3) := by decide +kernel
theorem dM_line_26 : decode cM_line 26 = .ok (.iconst 0, 1) := by decide +kernel
theorem dM_line_27 : decode cM_line 27 = .ok (.istore_n 1, 1) := by decide +kernel
theorem dM_line_28 : decode cM_line 28 = .ok (.iload_n 1, 1) := by decide +kernel
theorem dM_line_29 : decode cM_line 29 = .ok (.ifCond .ne 10, 3) := by decide +kernel
theorem dM_line_32 : decode cM_line 32 = .ok (.iconst (-1), 1) := by decide +kernel
theorem dM_line_33 : decode cM_line 33 = .ok (.aload_n 0, 1) := by decide +kernel
theorem dM_line_34 : decode cM_line 34 = .ok (.getfield 158, 3) := by decide +kernel
theorem dM_line_37 : decode cM_line 37 = .ok (.isub, 1) := by decide +kernel
theorem dM_line_38 : decode cM_line 38 = .ok (.ireturn, 1) := by decide +kernel
theorem dM_line_39 : decode cM_line 39 = .ok (.aload_n 0, 1) := by decide +kernel
theorem dM_line_40 : decode cM_line 40 = .ok (.getfield 155, 3) := by decide +kernel
theorem dM_line_43 : decode cM_line 43 = .ok (.bipush 20, 2) := by decide +kernel
theorem dM_line_45 : decode cM_line 45 = .ok (.if_icmp .lt 6, 3) := by decide +kernel
theorem dM_line_48 : decode cM_line 48 = .ok (.bipush (-100), 2) := by decide +kernel
theorem dM_line_50 : decode cM_line 50 = .ok (.ireturn, 1) := by decide +kernel
theorem dM_line_51 : decode cM_line 51 = .ok (.aload_n 0, 1) := by decide +kernel
theorem dM_line_52 : decode cM_line 52 = .ok (.aload_n 0, 1) := by decide +kernel
theorem dM_line_53 : decode cM_line 53 = .ok (.getfield 155, 3) := by decide +kernel
theorem dM_line_56 : decode cM_line 56 = .ok (.iconst 1, 1) := by decide +kernel
theorem dM_line_57 : decode cM_line 57 = .ok (.iadd, 1) := by decide +kernel
theorem dM_line_58 : decode cM_line 58 = .ok (.putfield 155, 3) := by decide +kernel
theorem dM_line_61 : decode cM_line 61 = .ok (.aload_n 0, 1) := by decide +kernel
theorem dM_line_62 : decode cM_line 62 = .ok (.iconst 0, 1) := by decide +kernel
theorem dM_line_63 : decode cM_line 63 = .ok (.putfield 271, 3) := by decide +kernel
theorem dM_line_66 : decode cM_line 66 = .ok (.aload_n 0, 1) := by decide +kernel
theorem dM_line_67 : decode cM_line 67 = .ok (.iconst (-1), 1) := by decide +kernel
theorem dM_line_68 : decode cM_line 68 = .ok (.putfield 68, 3) := by decide +kernel
theorem dM_line_71 : decode cM_line 71 = .ok (.aload_n 0, 1) := by decide +kernel
theorem dM_line_72 : decode cM_line 72 = .ok (.getfield 19, 3) := by decide +kernel
theorem dM_line_75 : decode cM_line 75 = .ok (.aload_n 0, 1) := by decide +kernel
theorem dM_line_76 : decode cM_line 76 = .ok (.getfield 155, 3) := by decide +kernel
theorem dM_line_79 : decode cM_line 79 = .ok (.iconst 1, 1) := by decide +kernel
theorem dM_line_80 : decode cM_line 80 = .ok (.isub, 1) := by decide +kernel
theorem dM_line_81 : decode cM_line 81 = .ok (.iaload, 1) := by decide +kernel
theorem dM_line_82 : decode cM_line 82 = .ok (.ireturn, 1) := by decide +kernel
abbrev cM_lines : ByteArray := prog_11_method_37_code
def yM_lines : MethodName := ⟨"WordCheckerModel", "lines", "()I"⟩
theorem calM_lines : CalV gT yM_lines cM_lines 1 (some .int) 0 := ⟨⟨gT_1 (i := 973) (by decide +kernel) rfl, gT_1 (i := 8) (by decide +kernel) rfl, by decide +kernel⟩, gT_1 (i := 971) (by decide +kernel) rfl, gT_1 (i := 972) (by decide +kernel) rfl⟩
theorem dM_lines_0 : decode cM_lines 0 = .ok (.aload_n 0, 1) := by decide +kernel
theorem dM_lines_1 : decode cM_lines 1 = .ok (.getfield 155, 3) := by decide +kernel
theorem dM_lines_4 : decode cM_lines 4 = .ok (.ireturn, 1) := by decide +kernel
abbrev cM_get : ByteArray := prog_11_method_38_code
def yM_get : MethodName := ⟨"WordCheckerModel", "get", "(IZ)I"⟩
theorem calM_get : CalV gT yM_get cM_get 3 (some .int) 2 := ⟨⟨gT_1 (i := 993) (by decide +kernel) rfl, gT_1 (i := 8) (by decide +kernel) rfl, by decide +kernel⟩, gT_1 (i := 992) (by decide +kernel) rfl, gT_s (q := (yM_get, 28)) (by decide +kernel)⟩
theorem dM_get_0 : decode cM_get 0 = .ok (.iload_n 2, 1) := by decide +kernel
theorem dM_get_1 : decode cM_get 1 = .ok (.ifCond .eq 28, 3) := by decide +kernel
theorem dM_get_4 : decode cM_get 4 = .ok (.iconst 1, 1) := by decide +kernel
theorem dM_get_5 : decode cM_get 5 = .ok (.aload_n 0, 1) := by decide +kernel
theorem dM_get_6 : decode cM_get 6 = .ok (.getfield 56, 3) := by decide +kernel
theorem dM_get_9 : decode cM_get 9 = .ok (.aload_n 0, 1) := by decide +kernel
theorem dM_get_10 : decode cM_get 10 = .ok (.getfield 25, 3) := by decide +kernel
theorem dM_get_13 : decode cM_get 13 = .ok (.iload_n 1, 1) := by decide +kernel
theorem dM_get_14 : decode cM_get 14 = .ok (.iaload, 1) := by decide +kernel
theorem dM_get_15 : decode cM_get 15 = .ok (.iaload, 1) := by decide +kernel
theorem dM_get_16 : decode cM_get 16 = .ok (.ishl, 1) := by decide +kernel
theorem dM_get_17 : decode cM_get 17 = .ok (.iconst 1, 1) := by decide +kernel
theorem dM_get_18 : decode cM_get 18 = .ok (.isub, 1) := by decide +kernel
theorem dM_get_19 : decode cM_get 19 = .ok (.aload_n 0, 1) := by decide +kernel
theorem dM_get_20 : decode cM_get 20 = .ok (.getfield 59, 3) := by decide +kernel
theorem dM_get_23 : decode cM_get 23 = .ok (.iload_n 1, 1) := by decide +kernel
theorem dM_get_24 : decode cM_get 24 = .ok (.iaload, 1) := by decide +kernel
theorem dM_get_25 : decode cM_get 25 = .ok (.isub, 1) := by decide +kernel
theorem dM_get_26 : decode cM_get 26 = .ok (.goto 9, 3) := by decide +kernel
theorem dM_get_29 : decode cM_get 29 = .ok (.aload_n 0, 1) := by decide +kernel
theorem dM_get_30 : decode cM_get 30 = .ok (.getfield 59, 3) := by decide +kernel
theorem dM_get_33 : decode cM_get 33 = .ok (.iload_n 1, 1) := by decide +kernel
theorem dM_get_34 : decode cM_get 34 = .ok (.iaload, 1) := by decide +kernel
theorem dM_get_35 : decode cM_get 35 = .ok (.ireturn, 1) := by decide +kernel
abbrev cM_sign : ByteArray := prog_11_method_39_code
def yM_sign : MethodName := ⟨"WordCheckerModel", "sign", "(II)I"⟩
theorem calM_sign : CalV gT yM_sign cM_sign 3 (some .int) 2 := ⟨⟨gT_1 (i := 997) (by decide +kernel) rfl, gT_1 (i := 8) (by decide +kernel) rfl, by decide +kernel⟩, gT_1 (i := 996) (by decide +kernel) rfl, gT_s (q := (yM_sign, 28)) (by decide +kernel)⟩
theorem dM_sign_0 : decode cM_sign 0 = .ok (.iload_n 1, 1) := by decide +kernel
theorem dM_sign_1 : decode cM_sign 1 = .ok (.iconst 1, 1) := by decide +kernel
theorem dM_sign_2 : decode cM_sign 2 = .ok (.iload_n 2, 1) := by decide +kernel
theorem dM_sign_3 : decode cM_sign 3 = .ok (.iconst 1, 1) := by decide +kernel
theorem dM_sign_4 : decode cM_sign 4 = .ok (.isub, 1) := by decide +kernel
theorem dM_sign_5 : decode cM_sign 5 = .ok (.ishl, 1) := by decide +kernel
theorem dM_sign_6 : decode cM_sign 6 = .ok (.if_icmp .lt 11, 3) := by decide +kernel
theorem dM_sign_9 : decode cM_sign 9 = .ok (.iload_n 1, 1) := by decide +kernel
theorem dM_sign_10 : decode cM_sign 10 = .ok (.iconst 1, 1) := by decide +kernel
theorem dM_sign_11 : decode cM_sign 11 = .ok (.iload_n 2, 1) := by decide +kernel
theorem dM_sign_12 : decode cM_sign 12 = .ok (.ishl, 1) := by decide +kernel
theorem dM_sign_13 : decode cM_sign 13 = .ok (.isub, 1) := by decide +kernel
theorem dM_sign_14 : decode cM_sign 14 = .ok (.goto 4, 3) := by decide +kernel
theorem dM_sign_17 : decode cM_sign 17 = .ok (.iload_n 1, 1) := by decide +kernel
theorem dM_sign_18 : decode cM_sign 18 = .ok (.ireturn, 1) := by decide +kernel
abbrev cM_binary : ByteArray := prog_11_method_40_code
def yM_binary : MethodName := ⟨"WordCheckerModel", "binary", "(IIII)I"⟩
theorem calM_binary : CalV gT yM_binary cM_binary 6 (some .int) 4 := ⟨⟨gT_1 (i := 1009) (by decide +kernel) rfl, gT_1 (i := 8) (by decide +kernel) rfl, by decide +kernel⟩, gT_1 (i := 1008) (by decide +kernel) rfl, gT_s (q := (yM_binary, 28)) (by decide +kernel)⟩
theorem dM_binary_0 : decode cM_binary 0 = .ok (.iconst 1, 1) := by decide +kernel
theorem dM_binary_1 : decode cM_binary 1 = .ok (.iload 4, 2) := by decide +kernel
theorem dM_binary_3 : decode cM_binary 3 = .ok (.ishl, 1) := by decide +kernel
theorem dM_binary_4 : decode cM_binary 4 = .ok (.iconst 1, 1) := by decide +kernel
theorem dM_binary_5 : decode cM_binary 5 = .ok (.isub, 1) := by decide +kernel
theorem dM_binary_6 : decode cM_binary 6 = .ok (.istore 5, 2) := by decide +kernel
theorem dM_binary_8 : decode cM_binary 8 = .ok (.iload_n 1, 1) := by decide +kernel
theorem dM_binary_9 : decode cM_binary 9 = .ok (.tableswitch 116 7 15 #[51, 55, 59, 63, 70, 77, 84, 97, 109], 51) := by decide +kernel
theorem dM_binary_60 : decode cM_binary 60 = .ok (.iload_n 2, 1) := by decide +kernel
theorem dM_binary_61 : decode cM_binary 61 = .ok (.iload_n 3, 1) := by decide +kernel
theorem dM_binary_62 : decode cM_binary 62 = .ok (.iand, 1) := by decide +kernel
theorem dM_binary_63 : decode cM_binary 63 = .ok (.ireturn, 1) := by decide +kernel
theorem dM_binary_64 : decode cM_binary 64 = .ok (.iload_n 2, 1) := by decide +kernel
theorem dM_binary_65 : decode cM_binary 65 = .ok (.iload_n 3, 1) := by decide +kernel
theorem dM_binary_66 : decode cM_binary 66 = .ok (.ior, 1) := by decide +kernel
theorem dM_binary_67 : decode cM_binary 67 = .ok (.ireturn, 1) := by decide +kernel
theorem dM_binary_68 : decode cM_binary 68 = .ok (.iload_n 2, 1) := by decide +kernel
theorem dM_binary_69 : decode cM_binary 69 = .ok (.iload_n 3, 1) := by decide +kernel
theorem dM_binary_70 : decode cM_binary 70 = .ok (.ixor, 1) := by decide +kernel
theorem dM_binary_71 : decode cM_binary 71 = .ok (.ireturn, 1) := by decide +kernel
theorem dM_binary_72 : decode cM_binary 72 = .ok (.iload_n 2, 1) := by decide +kernel
theorem dM_binary_73 : decode cM_binary 73 = .ok (.iload_n 3, 1) := by decide +kernel
theorem dM_binary_74 : decode cM_binary 74 = .ok (.iadd, 1) := by decide +kernel
theorem dM_binary_75 : decode cM_binary 75 = .ok (.iload 5, 2) := by decide +kernel
theorem dM_binary_77 : decode cM_binary 77 = .ok (.iand, 1) := by decide +kernel
theorem dM_binary_78 : decode cM_binary 78 = .ok (.ireturn, 1) := by decide +kernel
theorem dM_binary_79 : decode cM_binary 79 = .ok (.iload_n 2, 1) := by decide +kernel
theorem dM_binary_80 : decode cM_binary 80 = .ok (.iload_n 3, 1) := by decide +kernel
theorem dM_binary_81 : decode cM_binary 81 = .ok (.isub, 1) := by decide +kernel
theorem dM_binary_82 : decode cM_binary 82 = .ok (.iload 5, 2) := by decide +kernel
theorem dM_binary_84 : decode cM_binary 84 = .ok (.iand, 1) := by decide +kernel
theorem dM_binary_85 : decode cM_binary 85 = .ok (.ireturn, 1) := by decide +kernel
theorem dM_binary_86 : decode cM_binary 86 = .ok (.iload_n 2, 1) := by decide +kernel
theorem dM_binary_87 : decode cM_binary 87 = .ok (.iload_n 3, 1) := by decide +kernel
theorem dM_binary_88 : decode cM_binary 88 = .ok (.imul, 1) := by decide +kernel
theorem dM_binary_89 : decode cM_binary 89 = .ok (.iload 5, 2) := by decide +kernel
theorem dM_binary_91 : decode cM_binary 91 = .ok (.iand, 1) := by decide +kernel
theorem dM_binary_92 : decode cM_binary 92 = .ok (.ireturn, 1) := by decide +kernel
theorem dM_binary_93 : decode cM_binary 93 = .ok (.iload_n 3, 1) := by decide +kernel
theorem dM_binary_94 : decode cM_binary 94 = .ok (.ifCond .ne 8, 3) := by decide +kernel
theorem dM_binary_97 : decode cM_binary 97 = .ok (.iload 5, 2) := by decide +kernel
theorem dM_binary_99 : decode cM_binary 99 = .ok (.goto 6, 3) := by decide +kernel
theorem dM_binary_102 : decode cM_binary 102 = .ok (.iload_n 2, 1) := by decide +kernel
theorem dM_binary_103 : decode cM_binary 103 = .ok (.iload_n 3, 1) := by decide +kernel
theorem dM_binary_104 : decode cM_binary 104 = .ok (.idiv, 1) := by decide +kernel
theorem dM_binary_105 : decode cM_binary 105 = .ok (.ireturn, 1) := by decide +kernel
theorem dM_binary_106 : decode cM_binary 106 = .ok (.iload_n 3, 1) := by decide +kernel
theorem dM_binary_107 : decode cM_binary 107 = .ok (.ifCond .ne 7, 3) := by decide +kernel
theorem dM_binary_110 : decode cM_binary 110 = .ok (.iload_n 2, 1) := by decide +kernel
theorem dM_binary_111 : decode cM_binary 111 = .ok (.goto 6, 3) := by decide +kernel
theorem dM_binary_114 : decode cM_binary 114 = .ok (.iload_n 2, 1) := by decide +kernel
theorem dM_binary_115 : decode cM_binary 115 = .ok (.iload_n 3, 1) := by decide +kernel
theorem dM_binary_116 : decode cM_binary 116 = .ok (.irem, 1) := by decide +kernel
theorem dM_binary_117 : decode cM_binary 117 = .ok (.ireturn, 1) := by decide +kernel
theorem dM_binary_118 : decode cM_binary 118 = .ok (.iload_n 2, 1) := by decide +kernel
theorem dM_binary_119 : decode cM_binary 119 = .ok (.iload_n 3, 1) := by decide +kernel
theorem dM_binary_120 : decode cM_binary 120 = .ok (.ishl, 1) := by decide +kernel
theorem dM_binary_121 : decode cM_binary 121 = .ok (.iload 5, 2) := by decide +kernel
theorem dM_binary_123 : decode cM_binary 123 = .ok (.iand, 1) := by decide +kernel
theorem dM_binary_124 : decode cM_binary 124 = .ok (.ireturn, 1) := by decide +kernel
theorem dM_binary_125 : decode cM_binary 125 = .ok (.iload_n 2, 1) := by decide +kernel
theorem dM_binary_126 : decode cM_binary 126 = .ok (.iload_n 3, 1) := by decide +kernel
theorem dM_binary_127 : decode cM_binary 127 = .ok (.ishr, 1) := by decide +kernel
theorem dM_binary_128 : decode cM_binary 128 = .ok (.ireturn, 1) := by decide +kernel
abbrev cM_elementOf : ByteArray := prog_11_method_41_code
def yM_elementOf : MethodName := ⟨"WordCheckerModel", "elementOf", "(III)I"⟩
theorem calM_elementOf : CalV gT yM_elementOf cM_elementOf 4 (some .int) 3 := ⟨⟨gT_1 (i := 1001) (by decide +kernel) rfl, gT_1 (i := 8) (by decide +kernel) rfl, by decide +kernel⟩, gT_1 (i := 1000) (by decide +kernel) rfl, gT_s (q := (yM_elementOf, 28)) (by decide +kernel)⟩
theorem dM_elementOf_0 : decode cM_elementOf 0 = .ok (.iload_n 2, 1) := by decide +kernel
theorem dM_elementOf_1 : decode cM_elementOf 1 = .ok (.ifCond .ne 13, 3) := by decide +kernel
theorem dM_elementOf_4 : decode cM_elementOf 4 = .ok (.iload_n 1, 1) := by decide +kernel
theorem dM_elementOf_5 : decode cM_elementOf 5 = .ok (.iconst 1, 1) := by decide +kernel
theorem dM_elementOf_6 : decode cM_elementOf 6 = .ok (.iload_n 3, 1) := by decide +kernel
theorem dM_elementOf_7 : decode cM_elementOf 7 = .ok (.ishl, 1) := by decide +kernel
theorem dM_elementOf_8 : decode cM_elementOf 8 = .ok (.iconst 1, 1) := by decide +kernel
theorem dM_elementOf_9 : decode cM_elementOf 9 = .ok (.isub, 1) := by decide +kernel
theorem dM_elementOf_10 : decode cM_elementOf 10 = .ok (.iand, 1) := by decide +kernel
theorem dM_elementOf_11 : decode cM_elementOf 11 = .ok (.goto 6, 3) := by decide +kernel
theorem dM_elementOf_14 : decode cM_elementOf 14 = .ok (.iload_n 1, 1) := by decide +kernel
theorem dM_elementOf_15 : decode cM_elementOf 15 = .ok (.iload_n 3, 1) := by decide +kernel
theorem dM_elementOf_16 : decode cM_elementOf 16 = .ok (.ishr, 1) := by decide +kernel
theorem dM_elementOf_17 : decode cM_elementOf 17 = .ok (.ireturn, 1) := by decide +kernel
abbrev cM_written : ByteArray := prog_11_method_42_code
def yM_written : MethodName := ⟨"WordCheckerModel", "written", "(III)I"⟩
theorem calM_written : CalV gT yM_written cM_written 8 (some .int) 3 := ⟨⟨gT_1 (i := 1005) (by decide +kernel) rfl, gT_1 (i := 8) (by decide +kernel) rfl, by decide +kernel⟩, gT_1 (i := 1004) (by decide +kernel) rfl, gT_s (q := (yM_written, 28)) (by decide +kernel)⟩
theorem dM_written_0 : decode cM_written 0 = .ok (.aload_n 0, 1) := by decide +kernel
theorem dM_written_1 : decode cM_written 1 = .ok (.getfield 56, 3) := by decide +kernel
theorem dM_written_4 : decode cM_written 4 = .ok (.aload_n 0, 1) := by decide +kernel
theorem dM_written_5 : decode cM_written 5 = .ok (.getfield 25, 3) := by decide +kernel
theorem dM_written_8 : decode cM_written 8 = .ok (.iload_n 1, 1) := by decide +kernel
theorem dM_written_9 : decode cM_written 9 = .ok (.iaload, 1) := by decide +kernel
theorem dM_written_10 : decode cM_written 10 = .ok (.iaload, 1) := by decide +kernel
theorem dM_written_11 : decode cM_written 11 = .ok (.istore 4, 2) := by decide +kernel
theorem dM_written_13 : decode cM_written 13 = .ok (.aload_n 0, 1) := by decide +kernel
theorem dM_written_14 : decode cM_written 14 = .ok (.aload_n 0, 1) := by decide +kernel
theorem dM_written_15 : decode cM_written 15 = .ok (.getfield 34, 3) := by decide +kernel
theorem dM_written_18 : decode cM_written 18 = .ok (.iload_n 1, 1) := by decide +kernel
theorem dM_written_19 : decode cM_written 19 = .ok (.iaload, 1) := by decide +kernel
theorem dM_written_20 : decode cM_written 20 = .ok (.aload_n 0, 1) := by decide +kernel
theorem dM_written_21 : decode cM_written 21 = .ok (.getfield 44, 3) := by decide +kernel
theorem dM_written_24 : decode cM_written 24 = .ok (.iload_n 1, 1) := by decide +kernel
theorem dM_written_25 : decode cM_written 25 = .ok (.baload, 1) := by decide +kernel
theorem dM_written_26 : decode cM_written 26 = .ok (.invokevirtual 274, 3) := by decide +kernel
theorem dM_written_29 : decode cM_written 29 = .ok (.istore 5, 2) := by decide +kernel
theorem dM_written_31 : decode cM_written 31 = .ok (.iload_n 3, 1) := by decide +kernel
theorem dM_written_32 : decode cM_written 32 = .ok (.ifCond .ne 8, 3) := by decide +kernel
theorem dM_written_35 : decode cM_written 35 = .ok (.iload 5, 2) := by decide +kernel
theorem dM_written_37 : decode cM_written 37 = .ok (.goto 11, 3) := by decide +kernel
theorem dM_written_40 : decode cM_written 40 = .ok (.aload_n 0, 1) := by decide +kernel
theorem dM_written_41 : decode cM_written 41 = .ok (.iload_n 2, 1) := by decide +kernel
theorem dM_written_42 : decode cM_written 42 = .ok (.iconst 0, 1) := by decide +kernel
theorem dM_written_43 : decode cM_written 43 = .ok (.iload 4, 2) := by decide +kernel
theorem dM_written_45 : decode cM_written 45 = .ok (.invokevirtual 278, 3) := by decide +kernel
theorem dM_written_48 : decode cM_written 48 = .ok (.istore 6, 2) := by decide +kernel
theorem dM_written_50 : decode cM_written 50 = .ok (.iload_n 3, 1) := by decide +kernel
theorem dM_written_51 : decode cM_written 51 = .ok (.iconst 1, 1) := by decide +kernel
theorem dM_written_52 : decode cM_written 52 = .ok (.if_icmp .ne 8, 3) := by decide +kernel
theorem dM_written_55 : decode cM_written 55 = .ok (.iload 5, 2) := by decide +kernel
theorem dM_written_57 : decode cM_written 57 = .ok (.goto 11, 3) := by decide +kernel
theorem dM_written_60 : decode cM_written 60 = .ok (.aload_n 0, 1) := by decide +kernel
theorem dM_written_61 : decode cM_written 61 = .ok (.iload_n 2, 1) := by decide +kernel
theorem dM_written_62 : decode cM_written 62 = .ok (.iconst 1, 1) := by decide +kernel
theorem dM_written_63 : decode cM_written 63 = .ok (.iload 4, 2) := by decide +kernel
theorem dM_written_65 : decode cM_written 65 = .ok (.invokevirtual 278, 3) := by decide +kernel
theorem dM_written_68 : decode cM_written 68 = .ok (.istore 7, 2) := by decide +kernel
theorem dM_written_70 : decode cM_written 70 = .ok (.iload 6, 2) := by decide +kernel
theorem dM_written_72 : decode cM_written 72 = .ok (.iload 7, 2) := by decide +kernel
theorem dM_written_74 : decode cM_written 74 = .ok (.iload 4, 2) := by decide +kernel
theorem dM_written_76 : decode cM_written 76 = .ok (.ishl, 1) := by decide +kernel
theorem dM_written_77 : decode cM_written 77 = .ok (.iadd, 1) := by decide +kernel
theorem dM_written_78 : decode cM_written 78 = .ok (.ireturn, 1) := by decide +kernel
abbrev cM_compute : ByteArray := prog_11_method_43_code
def yM_compute : MethodName := ⟨"WordCheckerModel", "compute", "(I)I"⟩
theorem calM_compute : CalV gT yM_compute cM_compute 7 (some .int) 1 := ⟨⟨gT_1 (i := 989) (by decide +kernel) rfl, gT_1 (i := 8) (by decide +kernel) rfl, by decide +kernel⟩, gT_1 (i := 988) (by decide +kernel) rfl, gT_s (q := (yM_compute, 28)) (by decide +kernel)⟩
theorem dM_compute_0 : decode cM_compute 0 = .ok (.aload_n 0, 1) := by decide +kernel
theorem dM_compute_1 : decode cM_compute 1 = .ok (.getfield 28, 3) := by decide +kernel
theorem dM_compute_4 : decode cM_compute 4 = .ok (.iload_n 1, 1) := by decide +kernel
theorem dM_compute_5 : decode cM_compute 5 = .ok (.iaload, 1) := by decide +kernel
theorem dM_compute_6 : decode cM_compute 6 = .ok (.ifCond .ge 7, 3) := by decide +kernel
theorem dM_compute_9 : decode cM_compute 9 = .ok (.iconst 0, 1) := by decide +kernel
theorem dM_compute_10 : decode cM_compute 10 = .ok (.goto 19, 3) := by decide +kernel
theorem dM_compute_13 : decode cM_compute 13 = .ok (.aload_n 0, 1) := by decide +kernel
theorem dM_compute_14 : decode cM_compute 14 = .ok (.aload_n 0, 1) := by decide +kernel
theorem dM_compute_15 : decode cM_compute 15 = .ok (.getfield 28, 3) := by decide +kernel
theorem dM_compute_18 : decode cM_compute 18 = .ok (.iload_n 1, 1) := by decide +kernel
theorem dM_compute_19 : decode cM_compute 19 = .ok (.iaload, 1) := by decide +kernel
theorem dM_compute_20 : decode cM_compute 20 = .ok (.aload_n 0, 1) := by decide +kernel
theorem dM_compute_21 : decode cM_compute 21 = .ok (.getfield 37, 3) := by decide +kernel
theorem dM_compute_24 : decode cM_compute 24 = .ok (.iload_n 1, 1) := by decide +kernel
theorem dM_compute_25 : decode cM_compute 25 = .ok (.baload, 1) := by decide +kernel
theorem dM_compute_26 : decode cM_compute 26 = .ok (.invokevirtual 274, 3) := by decide +kernel
theorem dM_compute_29 : decode cM_compute 29 = .ok (.istore_n 2, 1) := by decide +kernel
theorem dM_compute_30 : decode cM_compute 30 = .ok (.aload_n 0, 1) := by decide +kernel
theorem dM_compute_31 : decode cM_compute 31 = .ok (.getfield 31, 3) := by decide +kernel
theorem dM_compute_34 : decode cM_compute 34 = .ok (.iload_n 1, 1) := by decide +kernel
theorem dM_compute_35 : decode cM_compute 35 = .ok (.iaload, 1) := by decide +kernel
theorem dM_compute_36 : decode cM_compute 36 = .ok (.ifCond .ge 7, 3) := by decide +kernel
theorem dM_compute_39 : decode cM_compute 39 = .ok (.iconst 0, 1) := by decide +kernel
theorem dM_compute_40 : decode cM_compute 40 = .ok (.goto 19, 3) := by decide +kernel
theorem dM_compute_43 : decode cM_compute 43 = .ok (.aload_n 0, 1) := by decide +kernel
theorem dM_compute_44 : decode cM_compute 44 = .ok (.aload_n 0, 1) := by decide +kernel
theorem dM_compute_45 : decode cM_compute 45 = .ok (.getfield 31, 3) := by decide +kernel
theorem dM_compute_48 : decode cM_compute 48 = .ok (.iload_n 1, 1) := by decide +kernel
theorem dM_compute_49 : decode cM_compute 49 = .ok (.iaload, 1) := by decide +kernel
theorem dM_compute_50 : decode cM_compute 50 = .ok (.aload_n 0, 1) := by decide +kernel
theorem dM_compute_51 : decode cM_compute 51 = .ok (.getfield 41, 3) := by decide +kernel
theorem dM_compute_54 : decode cM_compute 54 = .ok (.iload_n 1, 1) := by decide +kernel
theorem dM_compute_55 : decode cM_compute 55 = .ok (.baload, 1) := by decide +kernel
theorem dM_compute_56 : decode cM_compute 56 = .ok (.invokevirtual 274, 3) := by decide +kernel
theorem dM_compute_59 : decode cM_compute 59 = .ok (.istore_n 3, 1) := by decide +kernel
theorem dM_compute_60 : decode cM_compute 60 = .ok (.aload_n 0, 1) := by decide +kernel
theorem dM_compute_61 : decode cM_compute 61 = .ok (.getfield 56, 3) := by decide +kernel
theorem dM_compute_64 : decode cM_compute 64 = .ok (.aload_n 0, 1) := by decide +kernel
theorem dM_compute_65 : decode cM_compute 65 = .ok (.getfield 25, 3) := by decide +kernel
theorem dM_compute_68 : decode cM_compute 68 = .ok (.iload_n 1, 1) := by decide +kernel
theorem dM_compute_69 : decode cM_compute 69 = .ok (.iaload, 1) := by decide +kernel
theorem dM_compute_70 : decode cM_compute 70 = .ok (.iaload, 1) := by decide +kernel
theorem dM_compute_71 : decode cM_compute 71 = .ok (.istore 4, 2) := by decide +kernel
theorem dM_compute_73 : decode cM_compute 73 = .ok (.iconst 1, 1) := by decide +kernel
theorem dM_compute_74 : decode cM_compute 74 = .ok (.iload 4, 2) := by decide +kernel
theorem dM_compute_76 : decode cM_compute 76 = .ok (.ishl, 1) := by decide +kernel
theorem dM_compute_77 : decode cM_compute 77 = .ok (.iconst 1, 1) := by decide +kernel
theorem dM_compute_78 : decode cM_compute 78 = .ok (.isub, 1) := by decide +kernel
theorem dM_compute_79 : decode cM_compute 79 = .ok (.istore 5, 2) := by decide +kernel
theorem dM_compute_81 : decode cM_compute 81 = .ok (.aload_n 0, 1) := by decide +kernel
theorem dM_compute_82 : decode cM_compute 82 = .ok (.getfield 28, 3) := by decide +kernel
theorem dM_compute_85 : decode cM_compute 85 = .ok (.iload_n 1, 1) := by decide +kernel
theorem dM_compute_86 : decode cM_compute 86 = .ok (.iaload, 1) := by decide +kernel
theorem dM_compute_87 : decode cM_compute 87 = .ok (.ifCond .ge 8, 3) := by decide +kernel
theorem dM_compute_90 : decode cM_compute 90 = .ok (.iload 4, 2) := by decide +kernel
theorem dM_compute_92 : decode cM_compute 92 = .ok (.goto 19, 3) := by decide +kernel
theorem dM_compute_95 : decode cM_compute 95 = .ok (.aload_n 0, 1) := by decide +kernel
theorem dM_compute_96 : decode cM_compute 96 = .ok (.getfield 56, 3) := by decide +kernel
theorem dM_compute_99 : decode cM_compute 99 = .ok (.aload_n 0, 1) := by decide +kernel
theorem dM_compute_100 : decode cM_compute 100 = .ok (.getfield 25, 3) := by decide +kernel
theorem dM_compute_103 : decode cM_compute 103 = .ok (.aload_n 0, 1) := by decide +kernel
theorem dM_compute_104 : decode cM_compute 104 = .ok (.getfield 28, 3) := by decide +kernel
theorem dM_compute_107 : decode cM_compute 107 = .ok (.iload_n 1, 1) := by decide +kernel
theorem dM_compute_108 : decode cM_compute 108 = .ok (.iaload, 1) := by decide +kernel
theorem dM_compute_109 : decode cM_compute 109 = .ok (.iaload, 1) := by decide +kernel
theorem dM_compute_110 : decode cM_compute 110 = .ok (.iaload, 1) := by decide +kernel
theorem dM_compute_111 : decode cM_compute 111 = .ok (.istore 6, 2) := by decide +kernel
theorem dM_compute_113 : decode cM_compute 113 = .ok (.aload_n 0, 1) := by decide +kernel
theorem dM_compute_114 : decode cM_compute 114 = .ok (.getfield 22, 3) := by decide +kernel
theorem dM_compute_117 : decode cM_compute 117 = .ok (.iload_n 1, 1) := by decide +kernel
theorem dM_compute_118 : decode cM_compute 118 = .ok (.iaload, 1) := by decide +kernel
theorem dM_compute_119 : decode cM_compute 119 = .ok (.tableswitch 271 3 26 #[109, 116, 121, 127, 271, 271, 271, 271, 271, 271, 271, 271, 271, 271, 137, 148, 159, 182, 203, 215, 217, 228, 254, 263], 109) := by decide +kernel
theorem dM_compute_228 : decode cM_compute 228 = .ok (.aload_n 0, 1) := by decide +kernel
theorem dM_compute_229 : decode cM_compute 229 = .ok (.getfield 47, 3) := by decide +kernel
theorem dM_compute_232 : decode cM_compute 232 = .ok (.iload_n 1, 1) := by decide +kernel
theorem dM_compute_233 : decode cM_compute 233 = .ok (.iaload, 1) := by decide +kernel
theorem dM_compute_234 : decode cM_compute 234 = .ok (.ireturn, 1) := by decide +kernel
theorem dM_compute_235 : decode cM_compute 235 = .ok (.iload 5, 2) := by decide +kernel
theorem dM_compute_237 : decode cM_compute 237 = .ok (.iload_n 2, 1) := by decide +kernel
theorem dM_compute_238 : decode cM_compute 238 = .ok (.isub, 1) := by decide +kernel
theorem dM_compute_239 : decode cM_compute 239 = .ok (.ireturn, 1) := by decide +kernel
theorem dM_compute_240 : decode cM_compute 240 = .ok (.iload_n 2, 1) := by decide +kernel
theorem dM_compute_241 : decode cM_compute 241 = .ok (.ineg, 1) := by decide +kernel
theorem dM_compute_242 : decode cM_compute 242 = .ok (.iload 5, 2) := by decide +kernel
theorem dM_compute_244 : decode cM_compute 244 = .ok (.iand, 1) := by decide +kernel
theorem dM_compute_245 : decode cM_compute 245 = .ok (.ireturn, 1) := by decide +kernel
theorem dM_compute_246 : decode cM_compute 246 = .ok (.iload_n 2, 1) := by decide +kernel
theorem dM_compute_247 : decode cM_compute 247 = .ok (.ifCond .eq 7, 3) := by decide +kernel
theorem dM_compute_250 : decode cM_compute 250 = .ok (.iconst 1, 1) := by decide +kernel
theorem dM_compute_251 : decode cM_compute 251 = .ok (.goto 4, 3) := by decide +kernel
theorem dM_compute_254 : decode cM_compute 254 = .ok (.iconst 0, 1) := by decide +kernel
theorem dM_compute_255 : decode cM_compute 255 = .ok (.ireturn, 1) := by decide +kernel
theorem dM_compute_256 : decode cM_compute 256 = .ok (.iload_n 2, 1) := by decide +kernel
theorem dM_compute_257 : decode cM_compute 257 = .ok (.iload_n 3, 1) := by decide +kernel
theorem dM_compute_258 : decode cM_compute 258 = .ok (.if_icmp .ne 7, 3) := by decide +kernel
theorem dM_compute_261 : decode cM_compute 261 = .ok (.iconst 1, 1) := by decide +kernel
theorem dM_compute_262 : decode cM_compute 262 = .ok (.goto 4, 3) := by decide +kernel
theorem dM_compute_265 : decode cM_compute 265 = .ok (.iconst 0, 1) := by decide +kernel
theorem dM_compute_266 : decode cM_compute 266 = .ok (.ireturn, 1) := by decide +kernel
theorem dM_compute_267 : decode cM_compute 267 = .ok (.iload_n 2, 1) := by decide +kernel
theorem dM_compute_268 : decode cM_compute 268 = .ok (.iload_n 3, 1) := by decide +kernel
theorem dM_compute_269 : decode cM_compute 269 = .ok (.if_icmp .ge 7, 3) := by decide +kernel
theorem dM_compute_272 : decode cM_compute 272 = .ok (.iconst 1, 1) := by decide +kernel
theorem dM_compute_273 : decode cM_compute 273 = .ok (.goto 4, 3) := by decide +kernel
theorem dM_compute_276 : decode cM_compute 276 = .ok (.iconst 0, 1) := by decide +kernel
theorem dM_compute_277 : decode cM_compute 277 = .ok (.ireturn, 1) := by decide +kernel
theorem dM_compute_278 : decode cM_compute 278 = .ok (.aload_n 0, 1) := by decide +kernel
theorem dM_compute_279 : decode cM_compute 279 = .ok (.iload_n 2, 1) := by decide +kernel
theorem dM_compute_280 : decode cM_compute 280 = .ok (.iload 6, 2) := by decide +kernel
theorem dM_compute_282 : decode cM_compute 282 = .ok (.invokevirtual 282, 3) := by decide +kernel
theorem dM_compute_285 : decode cM_compute 285 = .ok (.aload_n 0, 1) := by decide +kernel
theorem dM_compute_286 : decode cM_compute 286 = .ok (.iload_n 3, 1) := by decide +kernel
theorem dM_compute_287 : decode cM_compute 287 = .ok (.iload 6, 2) := by decide +kernel
theorem dM_compute_289 : decode cM_compute 289 = .ok (.invokevirtual 282, 3) := by decide +kernel
theorem dM_compute_292 : decode cM_compute 292 = .ok (.if_icmp .ge 7, 3) := by decide +kernel
theorem dM_compute_295 : decode cM_compute 295 = .ok (.iconst 1, 1) := by decide +kernel
theorem dM_compute_296 : decode cM_compute 296 = .ok (.goto 4, 3) := by decide +kernel
theorem dM_compute_299 : decode cM_compute 299 = .ok (.iconst 0, 1) := by decide +kernel
theorem dM_compute_300 : decode cM_compute 300 = .ok (.ireturn, 1) := by decide +kernel
theorem dM_compute_301 : decode cM_compute 301 = .ok (.iload_n 2, 1) := by decide +kernel
theorem dM_compute_302 : decode cM_compute 302 = .ok (.aload_n 0, 1) := by decide +kernel
theorem dM_compute_303 : decode cM_compute 303 = .ok (.getfield 56, 3) := by decide +kernel
theorem dM_compute_306 : decode cM_compute 306 = .ok (.aload_n 0, 1) := by decide +kernel
theorem dM_compute_307 : decode cM_compute 307 = .ok (.getfield 25, 3) := by decide +kernel
theorem dM_compute_310 : decode cM_compute 310 = .ok (.aload_n 0, 1) := by decide +kernel
theorem dM_compute_311 : decode cM_compute 311 = .ok (.getfield 31, 3) := by decide +kernel
theorem dM_compute_314 : decode cM_compute 314 = .ok (.iload_n 1, 1) := by decide +kernel
theorem dM_compute_315 : decode cM_compute 315 = .ok (.iaload, 1) := by decide +kernel
theorem dM_compute_316 : decode cM_compute 316 = .ok (.iaload, 1) := by decide +kernel
theorem dM_compute_317 : decode cM_compute 317 = .ok (.iaload, 1) := by decide +kernel
theorem dM_compute_318 : decode cM_compute 318 = .ok (.ishl, 1) := by decide +kernel
theorem dM_compute_319 : decode cM_compute 319 = .ok (.iload_n 3, 1) := by decide +kernel
theorem dM_compute_320 : decode cM_compute 320 = .ok (.iadd, 1) := by decide +kernel
theorem dM_compute_321 : decode cM_compute 321 = .ok (.ireturn, 1) := by decide +kernel
theorem dM_compute_322 : decode cM_compute 322 = .ok (.iload_n 2, 1) := by decide +kernel
theorem dM_compute_323 : decode cM_compute 323 = .ok (.aload_n 0, 1) := by decide +kernel
theorem dM_compute_324 : decode cM_compute 324 = .ok (.getfield 50, 3) := by decide +kernel
theorem dM_compute_327 : decode cM_compute 327 = .ok (.iload_n 1, 1) := by decide +kernel
theorem dM_compute_328 : decode cM_compute 328 = .ok (.iaload, 1) := by decide +kernel
theorem dM_compute_329 : decode cM_compute 329 = .ok (.ishr, 1) := by decide +kernel
theorem dM_compute_330 : decode cM_compute 330 = .ok (.iload 5, 2) := by decide +kernel
theorem dM_compute_332 : decode cM_compute 332 = .ok (.iand, 1) := by decide +kernel
theorem dM_compute_333 : decode cM_compute 333 = .ok (.ireturn, 1) := by decide +kernel
theorem dM_compute_334 : decode cM_compute 334 = .ok (.iload_n 2, 1) := by decide +kernel
theorem dM_compute_335 : decode cM_compute 335 = .ok (.ireturn, 1) := by decide +kernel
theorem dM_compute_336 : decode cM_compute 336 = .ok (.aload_n 0, 1) := by decide +kernel
theorem dM_compute_337 : decode cM_compute 337 = .ok (.iload_n 2, 1) := by decide +kernel
theorem dM_compute_338 : decode cM_compute 338 = .ok (.iload 6, 2) := by decide +kernel
theorem dM_compute_340 : decode cM_compute 340 = .ok (.invokevirtual 282, 3) := by decide +kernel
theorem dM_compute_343 : decode cM_compute 343 = .ok (.iload 5, 2) := by decide +kernel
theorem dM_compute_345 : decode cM_compute 345 = .ok (.iand, 1) := by decide +kernel
theorem dM_compute_346 : decode cM_compute 346 = .ok (.ireturn, 1) := by decide +kernel
theorem dM_compute_347 : decode cM_compute 347 = .ok (.aload_n 0, 1) := by decide +kernel
theorem dM_compute_348 : decode cM_compute 348 = .ok (.aload_n 0, 1) := by decide +kernel
theorem dM_compute_349 : decode cM_compute 349 = .ok (.getfield 34, 3) := by decide +kernel
theorem dM_compute_352 : decode cM_compute 352 = .ok (.iload_n 1, 1) := by decide +kernel
theorem dM_compute_353 : decode cM_compute 353 = .ok (.iaload, 1) := by decide +kernel
theorem dM_compute_354 : decode cM_compute 354 = .ok (.aload_n 0, 1) := by decide +kernel
theorem dM_compute_355 : decode cM_compute 355 = .ok (.getfield 44, 3) := by decide +kernel
theorem dM_compute_358 : decode cM_compute 358 = .ok (.iload_n 1, 1) := by decide +kernel
theorem dM_compute_359 : decode cM_compute 359 = .ok (.baload, 1) := by decide +kernel
theorem dM_compute_360 : decode cM_compute 360 = .ok (.invokevirtual 274, 3) := by decide +kernel
theorem dM_compute_363 : decode cM_compute 363 = .ok (.iconst 1, 1) := by decide +kernel
theorem dM_compute_364 : decode cM_compute 364 = .ok (.if_icmp .ne 7, 3) := by decide +kernel
theorem dM_compute_367 : decode cM_compute 367 = .ok (.iload_n 2, 1) := by decide +kernel
theorem dM_compute_368 : decode cM_compute 368 = .ok (.goto 4, 3) := by decide +kernel
theorem dM_compute_371 : decode cM_compute 371 = .ok (.iload_n 3, 1) := by decide +kernel
theorem dM_compute_372 : decode cM_compute 372 = .ok (.ireturn, 1) := by decide +kernel
theorem dM_compute_373 : decode cM_compute 373 = .ok (.aload_n 0, 1) := by decide +kernel
theorem dM_compute_374 : decode cM_compute 374 = .ok (.iload_n 2, 1) := by decide +kernel
theorem dM_compute_375 : decode cM_compute 375 = .ok (.iload_n 3, 1) := by decide +kernel
theorem dM_compute_376 : decode cM_compute 376 = .ok (.iload 4, 2) := by decide +kernel
theorem dM_compute_378 : decode cM_compute 378 = .ok (.invokevirtual 278, 3) := by decide +kernel
theorem dM_compute_381 : decode cM_compute 381 = .ok (.ireturn, 1) := by decide +kernel
theorem dM_compute_382 : decode cM_compute 382 = .ok (.aload_n 0, 1) := by decide +kernel
theorem dM_compute_383 : decode cM_compute 383 = .ok (.iload_n 1, 1) := by decide +kernel
theorem dM_compute_384 : decode cM_compute 384 = .ok (.iload_n 2, 1) := by decide +kernel
theorem dM_compute_385 : decode cM_compute 385 = .ok (.iload_n 3, 1) := by decide +kernel
theorem dM_compute_386 : decode cM_compute 386 = .ok (.invokevirtual 285, 3) := by decide +kernel
theorem dM_compute_389 : decode cM_compute 389 = .ok (.ireturn, 1) := by decide +kernel
theorem dM_compute_390 : decode cM_compute 390 = .ok (.aload_n 0, 1) := by decide +kernel
theorem dM_compute_391 : decode cM_compute 391 = .ok (.aload_n 0, 1) := by decide +kernel
theorem dM_compute_392 : decode cM_compute 392 = .ok (.getfield 22, 3) := by decide +kernel
theorem dM_compute_395 : decode cM_compute 395 = .ok (.iload_n 1, 1) := by decide +kernel
theorem dM_compute_396 : decode cM_compute 396 = .ok (.iaload, 1) := by decide +kernel
theorem dM_compute_397 : decode cM_compute 397 = .ok (.iload_n 2, 1) := by decide +kernel
theorem dM_compute_398 : decode cM_compute 398 = .ok (.iload_n 3, 1) := by decide +kernel
theorem dM_compute_399 : decode cM_compute 399 = .ok (.iload 4, 2) := by decide +kernel
theorem dM_compute_401 : decode cM_compute 401 = .ok (.invokevirtual 288, 3) := by decide +kernel
theorem dM_compute_404 : decode cM_compute 404 = .ok (.ireturn, 1) := by decide +kernel
