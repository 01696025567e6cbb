/-! the law: rows, cases, loop -/
theorem dW_0 : decode code 0 = .ok (.new 7, 3) := dq__new (a := 0) (b := 7) (by decide +kernel)
theorem dW_3 : decode code 3 = .ok (.dup, 1) := dq__dup (by decide +kernel)
theorem dW_4 : decode code 4 = .ok (.invokespecial 9, 3) := dq__invokespecial (a := 0) (b := 9) (by decide +kernel)
theorem dW_7 : decode code 7 = .ok (.astore_n 1, 1) := dq__astore_n_1 (by decide +kernel)
theorem dW_8 : decode code 8 = .ok (.new 10, 3) := dq__new (a := 0) (b := 10) (by decide +kernel)
theorem dW_11 : decode code 11 = .ok (.dup, 1) := dq__dup (by decide +kernel)
theorem dW_12 : decode code 12 = .ok (.invokespecial 12, 3) := dq__invokespecial (a := 0) (b := 12) (by decide +kernel)
theorem dW_15 : decode code 15 = .ok (.astore_n 2, 1) := dq__astore_n_2 (by decide +kernel)
theorem dW_16 : decode code 16 = .ok (.iconst 0, 1) := dq__iconst_0 (by decide +kernel)
theorem dW_17 : decode code 17 = .ok (.istore_n 3, 1) := dq__istore_n_3 (by decide +kernel)
theorem dW_18 : decode code 18 = .ok (.iload_n 3, 1) := dq__iload_n_3 (by decide +kernel)
theorem dW_19 : decode code 19 = .ok (.aload_n 0, 1) := dq__aload_n_0 (by decide +kernel)
theorem dW_20 : decode code 20 = .ok (.arraylength, 1) := dq__arraylength (by decide +kernel)
theorem dW_21 : decode code 21 = .ok (.iconst 3, 1) := dq__iconst_3 (by decide +kernel)
theorem dW_22 : decode code 22 = .ok (.isub, 1) := dq__isub (by decide +kernel)
theorem dW_23 : decode code 23 = .ok (.if_icmp .gt 289, 3) := dq__if_icmp__gt (a := 1) (b := 33) (by decide +kernel) (by decide)
theorem dW_26 : decode code 26 = .ok (.aload_n 0, 1) := dq__aload_n_0 (by decide +kernel)
theorem dW_27 : decode code 27 = .ok (.iload_n 3, 1) := dq__iload_n_3 (by decide +kernel)
theorem dW_28 : decode code 28 = .ok (.iaload, 1) := dq__iaload (by decide +kernel)
theorem dW_29 : decode code 29 = .ok (.bipush 15, 2) := dq__bipush (a := 15) (by decide +kernel) (by decide)
theorem dW_31 : decode code 31 = .ok (.iand, 1) := dq__iand (by decide +kernel)
theorem dW_32 : decode code 32 = .ok (.tableswitch 274 0 9 #[56, 89, 102, 115, 136, 159, 172, 195, 218, 251], 56) := by decide +kernel
theorem dW_88 : decode code 88 = .ok (.aload_n 1, 1) := dq__aload_n_1 (by decide +kernel)
theorem dW_89 : decode code 89 = .ok (.aload_n 0, 1) := dq__aload_n_0 (by decide +kernel)
theorem dW_90 : decode code 90 = .ok (.iload_n 3, 1) := dq__iload_n_3 (by decide +kernel)
theorem dW_91 : decode code 91 = .ok (.iconst 1, 1) := dq__iconst_1 (by decide +kernel)
theorem dW_92 : decode code 92 = .ok (.iadd, 1) := dq__iadd (by decide +kernel)
theorem dW_93 : decode code 93 = .ok (.iaload, 1) := dq__iaload (by decide +kernel)
theorem dW_94 : decode code 94 = .ok (.aload_n 0, 1) := dq__aload_n_0 (by decide +kernel)
theorem dW_95 : decode code 95 = .ok (.iload_n 3, 1) := dq__iload_n_3 (by decide +kernel)
theorem dW_96 : decode code 96 = .ok (.iconst 2, 1) := dq__iconst_2 (by decide +kernel)
theorem dW_97 : decode code 97 = .ok (.iadd, 1) := dq__iadd (by decide +kernel)
theorem dW_98 : decode code 98 = .ok (.iaload, 1) := dq__iaload (by decide +kernel)
theorem dW_99 : decode code 99 = .ok (.invokevirtual 13, 3) := dq__invokevirtual (a := 0) (b := 13) (by decide +kernel)
theorem dW_102 : decode code 102 = .ok (.aload_n 2, 1) := dq__aload_n_2 (by decide +kernel)
theorem dW_103 : decode code 103 = .ok (.aload_n 0, 1) := dq__aload_n_0 (by decide +kernel)
theorem dW_104 : decode code 104 = .ok (.iload_n 3, 1) := dq__iload_n_3 (by decide +kernel)
theorem dW_105 : decode code 105 = .ok (.iconst 1, 1) := dq__iconst_1 (by decide +kernel)
theorem dW_106 : decode code 106 = .ok (.iadd, 1) := dq__iadd (by decide +kernel)
theorem dW_107 : decode code 107 = .ok (.iaload, 1) := dq__iaload (by decide +kernel)
theorem dW_108 : decode code 108 = .ok (.aload_n 0, 1) := dq__aload_n_0 (by decide +kernel)
theorem dW_109 : decode code 109 = .ok (.iload_n 3, 1) := dq__iload_n_3 (by decide +kernel)
theorem dW_110 : decode code 110 = .ok (.iconst 2, 1) := dq__iconst_2 (by decide +kernel)
theorem dW_111 : decode code 111 = .ok (.iadd, 1) := dq__iadd (by decide +kernel)
theorem dW_112 : decode code 112 = .ok (.iaload, 1) := dq__iaload (by decide +kernel)
theorem dW_113 : decode code 113 = .ok (.invokevirtual 17, 3) := dq__invokevirtual (a := 0) (b := 17) (by decide +kernel)
theorem dW_116 : decode code 116 = .ok (.if_icmp .eq 190, 3) := dq__if_icmp__eq (a := 0) (b := 190) (by decide +kernel) (by decide)
theorem dW_119 : decode code 119 = .ok (.iconst 0, 1) := dq__iconst_0 (by decide +kernel)
theorem dW_120 : decode code 120 = .ok (.ireturn, 1) := dq__ireturn (by decide +kernel)
theorem dW_121 : decode code 121 = .ok (.aload_n 1, 1) := dq__aload_n_1 (by decide +kernel)
theorem dW_122 : decode code 122 = .ok (.invokevirtual 18, 3) := dq__invokevirtual (a := 0) (b := 18) (by decide +kernel)
theorem dW_125 : decode code 125 = .ok (.aload_n 2, 1) := dq__aload_n_2 (by decide +kernel)
theorem dW_126 : decode code 126 = .ok (.invokevirtual 22, 3) := dq__invokevirtual (a := 0) (b := 22) (by decide +kernel)
theorem dW_129 : decode code 129 = .ok (.if_icmp .eq 177, 3) := dq__if_icmp__eq (a := 0) (b := 177) (by decide +kernel) (by decide)
theorem dW_132 : decode code 132 = .ok (.iconst 0, 1) := dq__iconst_0 (by decide +kernel)
theorem dW_133 : decode code 133 = .ok (.ireturn, 1) := dq__ireturn (by decide +kernel)
theorem dW_134 : decode code 134 = .ok (.aload_n 1, 1) := dq__aload_n_1 (by decide +kernel)
theorem dW_135 : decode code 135 = .ok (.invokevirtual 23, 3) := dq__invokevirtual (a := 0) (b := 23) (by decide +kernel)
theorem dW_138 : decode code 138 = .ok (.aload_n 2, 1) := dq__aload_n_2 (by decide +kernel)
theorem dW_139 : decode code 139 = .ok (.invokevirtual 26, 3) := dq__invokevirtual (a := 0) (b := 26) (by decide +kernel)
theorem dW_142 : decode code 142 = .ok (.if_icmp .eq 164, 3) := dq__if_icmp__eq (a := 0) (b := 164) (by decide +kernel) (by decide)
theorem dW_145 : decode code 145 = .ok (.iconst 0, 1) := dq__iconst_0 (by decide +kernel)
theorem dW_146 : decode code 146 = .ok (.ireturn, 1) := dq__ireturn (by decide +kernel)
theorem dW_147 : decode code 147 = .ok (.aload_n 1, 1) := dq__aload_n_1 (by decide +kernel)
theorem dW_148 : decode code 148 = .ok (.aload_n 0, 1) := dq__aload_n_0 (by decide +kernel)
theorem dW_149 : decode code 149 = .ok (.iload_n 3, 1) := dq__iload_n_3 (by decide +kernel)
theorem dW_150 : decode code 150 = .ok (.iconst 1, 1) := dq__iconst_1 (by decide +kernel)
theorem dW_151 : decode code 151 = .ok (.iadd, 1) := dq__iadd (by decide +kernel)
theorem dW_152 : decode code 152 = .ok (.iaload, 1) := dq__iaload (by decide +kernel)
theorem dW_153 : decode code 153 = .ok (.invokevirtual 27, 3) := dq__invokevirtual (a := 0) (b := 27) (by decide +kernel)
theorem dW_156 : decode code 156 = .ok (.aload_n 2, 1) := dq__aload_n_2 (by decide +kernel)
theorem dW_157 : decode code 157 = .ok (.aload_n 0, 1) := dq__aload_n_0 (by decide +kernel)
theorem dW_158 : decode code 158 = .ok (.iload_n 3, 1) := dq__iload_n_3 (by decide +kernel)
theorem dW_159 : decode code 159 = .ok (.iconst 1, 1) := dq__iconst_1 (by decide +kernel)
theorem dW_160 : decode code 160 = .ok (.iadd, 1) := dq__iadd (by decide +kernel)
theorem dW_161 : decode code 161 = .ok (.iaload, 1) := dq__iaload (by decide +kernel)
theorem dW_162 : decode code 162 = .ok (.invokevirtual 31, 3) := dq__invokevirtual (a := 0) (b := 31) (by decide +kernel)
theorem dW_165 : decode code 165 = .ok (.goto 141, 3) := dq__goto (a := 0) (b := 141) (by decide +kernel) (by decide)
theorem dW_168 : decode code 168 = .ok (.aload_n 1, 1) := dq__aload_n_1 (by decide +kernel)
theorem dW_169 : decode code 169 = .ok (.aload_n 0, 1) := dq__aload_n_0 (by decide +kernel)
theorem dW_170 : decode code 170 = .ok (.iload_n 3, 1) := dq__iload_n_3 (by decide +kernel)
theorem dW_171 : decode code 171 = .ok (.iconst 1, 1) := dq__iconst_1 (by decide +kernel)
theorem dW_172 : decode code 172 = .ok (.iadd, 1) := dq__iadd (by decide +kernel)
theorem dW_173 : decode code 173 = .ok (.iaload, 1) := dq__iaload (by decide +kernel)
theorem dW_174 : decode code 174 = .ok (.invokevirtual 32, 3) := dq__invokevirtual (a := 0) (b := 32) (by decide +kernel)
theorem dW_177 : decode code 177 = .ok (.aload_n 2, 1) := dq__aload_n_2 (by decide +kernel)
theorem dW_178 : decode code 178 = .ok (.aload_n 0, 1) := dq__aload_n_0 (by decide +kernel)
theorem dW_179 : decode code 179 = .ok (.iload_n 3, 1) := dq__iload_n_3 (by decide +kernel)
theorem dW_180 : decode code 180 = .ok (.iconst 1, 1) := dq__iconst_1 (by decide +kernel)
theorem dW_181 : decode code 181 = .ok (.iadd, 1) := dq__iadd (by decide +kernel)
theorem dW_182 : decode code 182 = .ok (.iaload, 1) := dq__iaload (by decide +kernel)
theorem dW_183 : decode code 183 = .ok (.invokevirtual 36, 3) := dq__invokevirtual (a := 0) (b := 36) (by decide +kernel)
theorem dW_186 : decode code 186 = .ok (.if_icmp .eq 120, 3) := dq__if_icmp__eq (a := 0) (b := 120) (by decide +kernel) (by decide)
theorem dW_189 : decode code 189 = .ok (.iconst 0, 1) := dq__iconst_0 (by decide +kernel)
theorem dW_190 : decode code 190 = .ok (.ireturn, 1) := dq__ireturn (by decide +kernel)
theorem dW_191 : decode code 191 = .ok (.aload_n 1, 1) := dq__aload_n_1 (by decide +kernel)
theorem dW_192 : decode code 192 = .ok (.invokevirtual 37, 3) := dq__invokevirtual (a := 0) (b := 37) (by decide +kernel)
theorem dW_195 : decode code 195 = .ok (.aload_n 2, 1) := dq__aload_n_2 (by decide +kernel)
theorem dW_196 : decode code 196 = .ok (.invokevirtual 41, 3) := dq__invokevirtual (a := 0) (b := 41) (by decide +kernel)
theorem dW_199 : decode code 199 = .ok (.if_icmp .eq 107, 3) := dq__if_icmp__eq (a := 0) (b := 107) (by decide +kernel) (by decide)
theorem dW_202 : decode code 202 = .ok (.iconst 0, 1) := dq__iconst_0 (by decide +kernel)
theorem dW_203 : decode code 203 = .ok (.ireturn, 1) := dq__ireturn (by decide +kernel)
theorem dW_204 : decode code 204 = .ok (.aload_n 1, 1) := dq__aload_n_1 (by decide +kernel)
theorem dW_205 : decode code 205 = .ok (.aload_n 0, 1) := dq__aload_n_0 (by decide +kernel)
theorem dW_206 : decode code 206 = .ok (.iload_n 3, 1) := dq__iload_n_3 (by decide +kernel)
theorem dW_207 : decode code 207 = .ok (.iconst 1, 1) := dq__iconst_1 (by decide +kernel)
theorem dW_208 : decode code 208 = .ok (.iadd, 1) := dq__iadd (by decide +kernel)
theorem dW_209 : decode code 209 = .ok (.iaload, 1) := dq__iaload (by decide +kernel)
theorem dW_210 : decode code 210 = .ok (.invokevirtual 42, 3) := dq__invokevirtual (a := 0) (b := 42) (by decide +kernel)
theorem dW_213 : decode code 213 = .ok (.aload_n 2, 1) := dq__aload_n_2 (by decide +kernel)
theorem dW_214 : decode code 214 = .ok (.aload_n 0, 1) := dq__aload_n_0 (by decide +kernel)
theorem dW_215 : decode code 215 = .ok (.iload_n 3, 1) := dq__iload_n_3 (by decide +kernel)
theorem dW_216 : decode code 216 = .ok (.iconst 1, 1) := dq__iconst_1 (by decide +kernel)
theorem dW_217 : decode code 217 = .ok (.iadd, 1) := dq__iadd (by decide +kernel)
theorem dW_218 : decode code 218 = .ok (.iaload, 1) := dq__iaload (by decide +kernel)
theorem dW_219 : decode code 219 = .ok (.invokevirtual 46, 3) := dq__invokevirtual (a := 0) (b := 46) (by decide +kernel)
theorem dW_222 : decode code 222 = .ok (.if_icmp .eq 84, 3) := dq__if_icmp__eq (a := 0) (b := 84) (by decide +kernel) (by decide)
theorem dW_225 : decode code 225 = .ok (.iconst 0, 1) := dq__iconst_0 (by decide +kernel)
theorem dW_226 : decode code 226 = .ok (.ireturn, 1) := dq__ireturn (by decide +kernel)
theorem dW_227 : decode code 227 = .ok (.aload_n 1, 1) := dq__aload_n_1 (by decide +kernel)
theorem dW_228 : decode code 228 = .ok (.aload_n 0, 1) := dq__aload_n_0 (by decide +kernel)
theorem dW_229 : decode code 229 = .ok (.iload_n 3, 1) := dq__iload_n_3 (by decide +kernel)
theorem dW_230 : decode code 230 = .ok (.iconst 1, 1) := dq__iconst_1 (by decide +kernel)
theorem dW_231 : decode code 231 = .ok (.iadd, 1) := dq__iadd (by decide +kernel)
theorem dW_232 : decode code 232 = .ok (.iaload, 1) := dq__iaload (by decide +kernel)
theorem dW_233 : decode code 233 = .ok (.invokevirtual 47, 3) := dq__invokevirtual (a := 0) (b := 47) (by decide +kernel)
theorem dW_236 : decode code 236 = .ok (.aload_n 2, 1) := dq__aload_n_2 (by decide +kernel)
theorem dW_237 : decode code 237 = .ok (.aload_n 0, 1) := dq__aload_n_0 (by decide +kernel)
theorem dW_238 : decode code 238 = .ok (.iload_n 3, 1) := dq__iload_n_3 (by decide +kernel)
theorem dW_239 : decode code 239 = .ok (.iconst 1, 1) := dq__iconst_1 (by decide +kernel)
theorem dW_240 : decode code 240 = .ok (.iadd, 1) := dq__iadd (by decide +kernel)
theorem dW_241 : decode code 241 = .ok (.iaload, 1) := dq__iaload (by decide +kernel)
theorem dW_242 : decode code 242 = .ok (.invokevirtual 50, 3) := dq__invokevirtual (a := 0) (b := 50) (by decide +kernel)
theorem dW_245 : decode code 245 = .ok (.if_icmp .eq 61, 3) := dq__if_icmp__eq (a := 0) (b := 61) (by decide +kernel) (by decide)
theorem dW_248 : decode code 248 = .ok (.iconst 0, 1) := dq__iconst_0 (by decide +kernel)
theorem dW_249 : decode code 249 = .ok (.ireturn, 1) := dq__ireturn (by decide +kernel)
theorem dW_250 : decode code 250 = .ok (.aload_n 1, 1) := dq__aload_n_1 (by decide +kernel)
theorem dW_251 : decode code 251 = .ok (.aload_n 0, 1) := dq__aload_n_0 (by decide +kernel)
theorem dW_252 : decode code 252 = .ok (.iload_n 3, 1) := dq__iload_n_3 (by decide +kernel)
theorem dW_253 : decode code 253 = .ok (.iconst 1, 1) := dq__iconst_1 (by decide +kernel)
theorem dW_254 : decode code 254 = .ok (.iadd, 1) := dq__iadd (by decide +kernel)
theorem dW_255 : decode code 255 = .ok (.iaload, 1) := dq__iaload (by decide +kernel)
theorem dW_256 : decode code 256 = .ok (.aload_n 0, 1) := dq__aload_n_0 (by decide +kernel)
theorem dW_257 : decode code 257 = .ok (.iload_n 3, 1) := dq__iload_n_3 (by decide +kernel)
theorem dW_258 : decode code 258 = .ok (.iconst 2, 1) := dq__iconst_2 (by decide +kernel)
theorem dW_259 : decode code 259 = .ok (.iadd, 1) := dq__iadd (by decide +kernel)
theorem dW_260 : decode code 260 = .ok (.iaload, 1) := dq__iaload (by decide +kernel)
theorem dW_261 : decode code 261 = .ok (.invokevirtual 51, 3) := dq__invokevirtual (a := 0) (b := 51) (by decide +kernel)
theorem dW_264 : decode code 264 = .ok (.aload_n 2, 1) := dq__aload_n_2 (by decide +kernel)
theorem dW_265 : decode code 265 = .ok (.aload_n 0, 1) := dq__aload_n_0 (by decide +kernel)
theorem dW_266 : decode code 266 = .ok (.iload_n 3, 1) := dq__iload_n_3 (by decide +kernel)
theorem dW_267 : decode code 267 = .ok (.iconst 1, 1) := dq__iconst_1 (by decide +kernel)
theorem dW_268 : decode code 268 = .ok (.iadd, 1) := dq__iadd (by decide +kernel)
theorem dW_269 : decode code 269 = .ok (.iaload, 1) := dq__iaload (by decide +kernel)
theorem dW_270 : decode code 270 = .ok (.aload_n 0, 1) := dq__aload_n_0 (by decide +kernel)
theorem dW_271 : decode code 271 = .ok (.iload_n 3, 1) := dq__iload_n_3 (by decide +kernel)
theorem dW_272 : decode code 272 = .ok (.iconst 2, 1) := dq__iconst_2 (by decide +kernel)
theorem dW_273 : decode code 273 = .ok (.iadd, 1) := dq__iadd (by decide +kernel)
theorem dW_274 : decode code 274 = .ok (.iaload, 1) := dq__iaload (by decide +kernel)
theorem dW_275 : decode code 275 = .ok (.invokevirtual 55, 3) := dq__invokevirtual (a := 0) (b := 55) (by decide +kernel)
theorem dW_278 : decode code 278 = .ok (.if_icmp .eq 28, 3) := dq__if_icmp__eq (a := 0) (b := 28) (by decide +kernel) (by decide)
theorem dW_281 : decode code 281 = .ok (.iconst 0, 1) := dq__iconst_0 (by decide +kernel)
theorem dW_282 : decode code 282 = .ok (.ireturn, 1) := dq__ireturn (by decide +kernel)
theorem dW_283 : decode code 283 = .ok (.aload_n 1, 1) := dq__aload_n_1 (by decide +kernel)
theorem dW_284 : decode code 284 = .ok (.aload_n 0, 1) := dq__aload_n_0 (by decide +kernel)
theorem dW_285 : decode code 285 = .ok (.iload_n 3, 1) := dq__iload_n_3 (by decide +kernel)
theorem dW_286 : decode code 286 = .ok (.iconst 1, 1) := dq__iconst_1 (by decide +kernel)
theorem dW_287 : decode code 287 = .ok (.iadd, 1) := dq__iadd (by decide +kernel)
theorem dW_288 : decode code 288 = .ok (.iaload, 1) := dq__iaload (by decide +kernel)
theorem dW_289 : decode code 289 = .ok (.invokevirtual 56, 3) := dq__invokevirtual (a := 0) (b := 56) (by decide +kernel)
theorem dW_292 : decode code 292 = .ok (.aload_n 2, 1) := dq__aload_n_2 (by decide +kernel)
theorem dW_293 : decode code 293 = .ok (.aload_n 0, 1) := dq__aload_n_0 (by decide +kernel)
theorem dW_294 : decode code 294 = .ok (.iload_n 3, 1) := dq__iload_n_3 (by decide +kernel)
theorem dW_295 : decode code 295 = .ok (.iconst 1, 1) := dq__iconst_1 (by decide +kernel)
theorem dW_296 : decode code 296 = .ok (.iadd, 1) := dq__iadd (by decide +kernel)
theorem dW_297 : decode code 297 = .ok (.iaload, 1) := dq__iaload (by decide +kernel)
theorem dW_298 : decode code 298 = .ok (.invokevirtual 59, 3) := dq__invokevirtual (a := 0) (b := 59) (by decide +kernel)
theorem dW_301 : decode code 301 = .ok (.if_icmp .eq 5, 3) := dq__if_icmp__eq (a := 0) (b := 5) (by decide +kernel) (by decide)
theorem dW_304 : decode code 304 = .ok (.iconst 0, 1) := dq__iconst_0 (by decide +kernel)
theorem dW_305 : decode code 305 = .ok (.ireturn, 1) := dq__ireturn (by decide +kernel)
theorem dW_306 : decode code 306 = .ok (.iinc 3 3, 3) := dq__iinc (a := 3) (b := 3) (by decide +kernel) (by decide)
theorem dW_309 : decode code 309 = .ok (.goto (-291), 3) := dq__goto (a := 254) (b := 221) (by decide +kernel) (by decide)
theorem dW_312 : decode code 312 = .ok (.iconst 1, 1) := dq__iconst_1 (by decide +kernel)
theorem dW_313 : decode code 313 = .ok (.ireturn, 1) := dq__ireturn (by decide +kernel)
theorem lk_9 : Cond.methodLink "WordCheckerLaw" 9 yC_new ∈ gT := gT_1 (i := 19) (by decide +kernel) rfl
theorem lk_12 : Cond.methodLink "WordCheckerLaw" 12 yM_new ∈ gT := gT_1 (i := 709) (by decide +kernel) rfl
theorem lk_13 : Cond.methodLink "WordCheckerLaw" 13 yC_type ∈ gT := gT_1 (i := 272) (by decide +kernel) rfl
theorem lk_17 : Cond.methodLink "WordCheckerLaw" 17 yM_type ∈ gT := gT_1 (i := 798) (by decide +kernel) rfl
theorem lk_18 : Cond.methodLink "WordCheckerLaw" 18 yC_line ∈ gT := gT_1 (i := 283) (by decide +kernel) rfl
theorem lk_22 : Cond.methodLink "WordCheckerLaw" 22 yM_line ∈ gT := gT_1 (i := 805) (by decide +kernel) rfl
theorem lk_23 : Cond.methodLink "WordCheckerLaw" 23 yC_lines ∈ gT := gT_1 (i := 611) (by decide +kernel) rfl
theorem lk_26 : Cond.methodLink "WordCheckerLaw" 26 yM_lines ∈ gT := gT_1 (i := 970) (by decide +kernel) rfl
theorem lk_27 : Cond.methodLink "WordCheckerLaw" 27 yC_begin ∈ gT := gT_1 (i := 615) (by decide +kernel) rfl
theorem lk_31 : Cond.methodLink "WordCheckerLaw" 31 yM_begin ∈ gT := gT_1 (i := 974) (by decide +kernel) rfl
theorem lk_32 : Cond.methodLink "WordCheckerLaw" 32 yC_feed ∈ gT := gT_1 (i := 624) (by decide +kernel) rfl
theorem lk_36 : Cond.methodLink "WordCheckerLaw" 36 yM_feed ∈ gT := gT_1 (i := 1022) (by decide +kernel) rfl
theorem lk_37 : Cond.methodLink "WordCheckerLaw" 37 yC_step ∈ gT := gT_1 (i := 628) (by decide +kernel) rfl
theorem lk_41 : Cond.methodLink "WordCheckerLaw" 41 yM_step ∈ gT := gT_1 (i := 1030) (by decide +kernel) rfl
theorem lk_42 : Cond.methodLink "WordCheckerLaw" 42 yC_value ∈ gT := gT_1 (i := 636) (by decide +kernel) rfl
theorem lk_46 : Cond.methodLink "WordCheckerLaw" 46 yM_value ∈ gT := gT_1 (i := 1038) (by decide +kernel) rfl
theorem lk_47 : Cond.methodLink "WordCheckerLaw" 47 yC_find ∈ gT := gT_1 (i := 651) (by decide +kernel) rfl
theorem lk_50 : Cond.methodLink "WordCheckerLaw" 50 yM_find ∈ gT := gT_1 (i := 1042) (by decide +kernel) rfl
theorem lk_51 : Cond.methodLink "WordCheckerLaw" 51 yC_shown ∈ gT := gT_1 (i := 691) (by decide +kernel) rfl
theorem lk_55 : Cond.methodLink "WordCheckerLaw" 55 yM_shown ∈ gT := gT_1 (i := 1074) (by decide +kernel) rfl
theorem lk_56 : Cond.methodLink "WordCheckerLaw" 56 yC_prove ∈ gT := gT_1 (i := 695) (by decide +kernel) rfl
theorem lk_59 : Cond.methodLink "WordCheckerLaw" 59 yM_prove ∈ gT := gT_1 (i := 1078) (by decide +kernel) rfl
theorem lc_7 : Cond.classLink "WordCheckerLaw" 7 "WordChecker" ∈ gT := gT_1 (i := 17) (by decide +kernel) rfl
theorem lc_10 : Cond.classLink "WordCheckerLaw" 10 "WordCheckerModel" ∈ gT := gT_1 (i := 707) (by decide +kernel) rfl
theorem tt_ok {A : Nat → Prop} : ZsOK A (fun _ => True) := ⟨fun _ _ _ _ _ => trivial, fun _ _ _ _ _ _ => trivial⟩
def Lk (p : Program) (s : State) (m : MethodId) (c : Code) (b L : Nat) (xs : Nat → Int32) (D : va_G) (cI cJ cC cZ cR : ClassId) (kd sd vd : Nat → Nat) (kA lA wA : Nat) (ax am : Nat → Nat) : Prop :=
  Cl p s m #[.ref b] c code 4 "WordCheckerLaw" D (tys5 cI cJ cC cZ cR) ∧ va_X b L xs s s.heap ∧ b < s.heap.size ∧ wlD 64 ax (A0 s) ∧ wlD 21 am (A0 s) ∧ (∀ i j, i < 64 → j < 21 → ax i ≠ am j) ∧ ZX (inW 64 ax) kd sd vd kA lA wA s ∧ L < 2 ^ 31
def Iv (s : State) (D : va_G) (cI cJ cC cZ cR : ClassId) (kd ax am : Nat → Nat) (H : Heap) (locs : List Loc) : Prop :=
  ∃ (hm hx : HI) (hl hlm : HL), va_P D cls8 (wl 64 ax (GX cI cJ cC cZ cR ax kd) hx hl) H ∧ va_P D cls8 (wl 21 am (GM cI cZ am) hm hlm) H ∧ va_S (A0 s) s.heap H locs ∧ Rel hm hx hl
theorem nI_p2 (i : Nat) : nI i + 2 = nI (i + 2) := nI_add i 2
theorem nI_p3 (i : Nat) : nI i + Int32.ofInt 3 = nI (i + 3) := nI_add i 3
section LW
variable {p : Program} {l : Launch} {e : Env} {s : State} {m : MethodId} {below : List Frame} {meth : Method} {c : Code} {H : Heap} {locs : List Loc} {Q : State → Prop} {ls : Array Slot}
variable {b L : Nat} {xs : Nat → Int32} {D : va_G} {cI cJ cC cZ cR : ClassId} {kd sd vd : Nat → Nat} {kA lA wA : Nat} {ax am : Nat → Nat} {i : Nat}
set_option maxRecDepth 100000 in
set_option maxHeartbeats 4000000 in
theorem lw_c0 (hk : Lk p s m c b L xs D cI cJ cC cZ cR kd sd vd kA lA wA ax am) (hi3 : i + 3 ≤ L) (hL : lv_has ls 4 [(0, .ref b), (1, .ref (ax 0)), (2, .ref (am 0)), (3, .int (nI i))]) (hI : Iv s D cI cJ cC cZ cR kd ax am H locs) (kk : ∀ (H : Heap) (locs : List Loc), Iv s D cI cJ cC cZ cR kd ax am H locs → W p l e room_1 s m #[.ref b] below meth c H locs 600000 7302250 Q (F0 m 306 ls [])) : W p l e room_1 s m #[.ref b] below meth c H locs 600000 7302250 Q (F0 m 88 ls []) := by
  obtain ⟨hm, hx, hl, hlm, hPx, hPm, hS, hR⟩ := hI
  obtain ⟨K, hX, hbl, hdX, hdM, hne, hZs, h31⟩ := hk
  have hbA : ¬ A0 s b := Nat.not_le.mpr hbl
  have hi1 : vp_in (nI i + 1) L := by rw [nI_1]; exact nI_in (by omega) h31
  have hi2 : vp_in (nI i + 2) L := by rw [nI_p2]; exact nI_in (by omega) h31
  refine lv_aload_n K.1 K.2.1 dW_88 rfl (lv_at hL 1 rfl) ?_
  refine lv_aload_n K.1 K.2.1 dW_89 rfl (lv_at hL 0 rfl) ?_
  refine lv_iload_n K.1 K.2.1 dW_90 rfl (lv_at hL 3 rfl) ?_
  refine lv_iconst (v := 1) K.1 K.2.1 dW_91 (by decide) ?_
  refine lv_iadd K.1 K.2.1 dW_92 ?_
  refine va_sld (i := nI i + 1) K.1 K.2.1 hX hbl hbA hS hi1 dW_93 ?_
  refine lv_aload_n K.1 K.2.1 dW_94 rfl (lv_at hL 0 rfl) ?_
  refine lv_iload_n K.1 K.2.1 dW_95 rfl (lv_at hL 3 rfl) ?_
  refine lv_iconst (v := 2) K.1 K.2.1 dW_96 (by decide) ?_
  refine lv_iadd K.1 K.2.1 dW_97 ?_
  refine va_sld (i := nI i + 2) K.1 K.2.1 hX hbl hbA hS hi2 dW_98 ?_
  refine l_cI (N := 64) (ad := ax) (As := [.int (xs (nI i + 1).toNatClampNeg), .int (xs (nI i + 2).toNatClampNeg)]) (rest := []) K ZX_ok hZs hdX hPx hS calC_type lk_13 0 (by decide) rfl rfl (mC_type ZX_ok hdX.self (type_ok (hlm := hlm) (xs (nI i + 1).toNatClampNeg) (xs (nI i + 2).toNatClampNeg) hR)) ⟨(Nat.le_of_ble_eq_true rfl), (Nat.le_of_ble_eq_true rfl)⟩ rfl hL.1 rfl (Nat.le_of_ble_eq_true rfl) ⟨(Nat.le_of_ble_eq_true rfl), (Nat.le_of_ble_eq_true rfl)⟩ dW_99 (fun r hx1 hl1 H1 locs1 h hPx hq hS => ?_)
  have hPm := wl_kept hPm (fun i j hi hj he => hne j i hj hi he.symm) hq
  refine lv_aload_n K.1 K.2.1 dW_102 rfl (lv_at hL 2 rfl) ?_
  refine lv_aload_n K.1 K.2.1 dW_103 rfl (lv_at hL 0 rfl) ?_
  refine lv_iload_n K.1 K.2.1 dW_104 rfl (lv_at hL 3 rfl) ?_
  refine lv_iconst (v := 1) K.1 K.2.1 dW_105 (by decide) ?_
  refine lv_iadd K.1 K.2.1 dW_106 ?_
  refine va_sld (i := nI i + 1) K.1 K.2.1 hX hbl hbA hS hi1 dW_107 ?_
  refine lv_aload_n K.1 K.2.1 dW_108 rfl (lv_at hL 0 rfl) ?_
  refine lv_iload_n K.1 K.2.1 dW_109 rfl (lv_at hL 3 rfl) ?_
  refine lv_iconst (v := 2) K.1 K.2.1 dW_110 (by decide) ?_
  refine lv_iadd K.1 K.2.1 dW_111 ?_
  refine va_sld (i := nI i + 2) K.1 K.2.1 hX hbl hbA hS hi2 dW_112 ?_
  refine l_cI (N := 21) (ad := am) (As := [.int (xs (nI i + 1).toNatClampNeg), .int (xs (nI i + 2).toNatClampNeg)]) (rest := [.int r]) K tt_ok trivial hdM hPm hS calM_type lk_17 0 (by decide) rfl rfl (mM_type tt_ok hdM.self h) ⟨(Nat.le_of_ble_eq_true rfl), (Nat.le_of_ble_eq_true rfl)⟩ rfl hL.1 rfl (Nat.le_of_ble_eq_true rfl) ⟨(Nat.le_of_ble_eq_true rfl), (Nat.le_of_ble_eq_true rfl)⟩ dW_113 (fun r' hm1 hlm1 H2 locs2 h hPm hq hS => ?_)
  have hPx := wl_kept hPx hne hq
  obtain ⟨rfl, hR1⟩ := h
  exact lv_icmp_eq (tgt := 306) K.1 K.2.1 dW_116 rfl (fun _ => kk H2 locs2 ⟨hm1, hx1, hl1, hlm1, hPx, hPm, hS, hR1⟩) (fun hc => absurd rfl hc)
set_option maxRecDepth 100000 in
set_option maxHeartbeats 4000000 in
theorem lw_c1 (hk : Lk p s m c b L xs D cI cJ cC cZ cR kd sd vd kA lA wA ax am) (hi3 : i + 3 ≤ L) (hL : lv_has ls 4 [(0, .ref b), (1, .ref (ax 0)), (2, .ref (am 0)), (3, .int (nI i))]) (hI : Iv s D cI cJ cC cZ cR kd ax am H locs) (kk : ∀ (H : Heap) (locs : List Loc), Iv s D cI cJ cC cZ cR kd ax am H locs → W p l e room_1 s m #[.ref b] below meth c H locs 600000 7302250 Q (F0 m 306 ls [])) : W p l e room_1 s m #[.ref b] below meth c H locs 600000 7302250 Q (F0 m 121 ls []) := by
  obtain ⟨hm, hx, hl, hlm, hPx, hPm, hS, hR⟩ := hI
  obtain ⟨K, hX, hbl, hdX, hdM, hne, hZs, h31⟩ := hk
  have hbA : ¬ A0 s b := Nat.not_le.mpr hbl
  have hi1 : vp_in (nI i + 1) L := by rw [nI_1]; exact nI_in (by omega) h31
  have hi2 : vp_in (nI i + 2) L := by rw [nI_p2]; exact nI_in (by omega) h31
  refine lv_aload_n K.1 K.2.1 dW_121 rfl (lv_at hL 1 rfl) ?_
  refine l_cI (N := 64) (ad := ax) (As := []) (rest := []) K ZX_ok hZs hdX hPx hS calC_line lk_18 0 (by decide) rfl rfl (mC_line ZX_ok hdX.self (line_ok (hlm := hlm) hR)) ⟨(Nat.le_of_ble_eq_true rfl), (Nat.le_of_ble_eq_true rfl)⟩ rfl hL.1 rfl (Nat.le_of_ble_eq_true rfl) ⟨(Nat.le_of_ble_eq_true rfl), (Nat.le_of_ble_eq_true rfl)⟩ dW_122 (fun r hx1 hl1 H1 locs1 h hPx hq hS => ?_)
  have hPm := wl_kept hPm (fun i j hi hj he => hne j i hj hi he.symm) hq
  refine lv_aload_n K.1 K.2.1 dW_125 rfl (lv_at hL 2 rfl) ?_
  refine l_cI (N := 21) (ad := am) (As := []) (rest := [.int r]) K tt_ok trivial hdM hPm hS calM_line lk_22 0 (by decide) rfl rfl (mM_line tt_ok hdM.self h) ⟨(Nat.le_of_ble_eq_true rfl), (Nat.le_of_ble_eq_true rfl)⟩ rfl hL.1 rfl (Nat.le_of_ble_eq_true rfl) ⟨(Nat.le_of_ble_eq_true rfl), (Nat.le_of_ble_eq_true rfl)⟩ dW_126 (fun r' hm1 hlm1 H2 locs2 h hPm hq hS => ?_)
  have hPx := wl_kept hPx hne hq
  obtain ⟨rfl, hR1⟩ := h
  exact lv_icmp_eq (tgt := 306) K.1 K.2.1 dW_129 rfl (fun _ => kk H2 locs2 ⟨hm1, hx1, hl1, hlm1, hPx, hPm, hS, hR1⟩) (fun hc => absurd rfl hc)
set_option maxRecDepth 100000 in
set_option maxHeartbeats 4000000 in
theorem lw_c2 (hk : Lk p s m c b L xs D cI cJ cC cZ cR kd sd vd kA lA wA ax am) (hi3 : i + 3 ≤ L) (hL : lv_has ls 4 [(0, .ref b), (1, .ref (ax 0)), (2, .ref (am 0)), (3, .int (nI i))]) (hI : Iv s D cI cJ cC cZ cR kd ax am H locs) (kk : ∀ (H : Heap) (locs : List Loc), Iv s D cI cJ cC cZ cR kd ax am H locs → W p l e room_1 s m #[.ref b] below meth c H locs 600000 7302250 Q (F0 m 306 ls [])) : W p l e room_1 s m #[.ref b] below meth c H locs 600000 7302250 Q (F0 m 134 ls []) := by
  obtain ⟨hm, hx, hl, hlm, hPx, hPm, hS, hR⟩ := hI
  obtain ⟨K, hX, hbl, hdX, hdM, hne, hZs, h31⟩ := hk
  have hbA : ¬ A0 s b := Nat.not_le.mpr hbl
  have hi1 : vp_in (nI i + 1) L := by rw [nI_1]; exact nI_in (by omega) h31
  have hi2 : vp_in (nI i + 2) L := by rw [nI_p2]; exact nI_in (by omega) h31
  refine lv_aload_n K.1 K.2.1 dW_134 rfl (lv_at hL 1 rfl) ?_
  refine l_cI (N := 64) (ad := ax) (As := []) (rest := []) K ZX_ok hZs hdX hPx hS calC_lines lk_23 0 (by decide) rfl rfl (mC_lines ZX_ok hdX.self (lines_ok (hlm := hlm) hR)) ⟨(Nat.le_of_ble_eq_true rfl), (Nat.le_of_ble_eq_true rfl)⟩ rfl hL.1 rfl (Nat.le_of_ble_eq_true rfl) ⟨(Nat.le_of_ble_eq_true rfl), (Nat.le_of_ble_eq_true rfl)⟩ dW_135 (fun r hx1 hl1 H1 locs1 h hPx hq hS => ?_)
  have hPm := wl_kept hPm (fun i j hi hj he => hne j i hj hi he.symm) hq
  refine lv_aload_n K.1 K.2.1 dW_138 rfl (lv_at hL 2 rfl) ?_
  refine l_cI (N := 21) (ad := am) (As := []) (rest := [.int r]) K tt_ok trivial hdM hPm hS calM_lines lk_26 0 (by decide) rfl rfl (mM_lines tt_ok hdM.self h) ⟨(Nat.le_of_ble_eq_true rfl), (Nat.le_of_ble_eq_true rfl)⟩ rfl hL.1 rfl (Nat.le_of_ble_eq_true rfl) ⟨(Nat.le_of_ble_eq_true rfl), (Nat.le_of_ble_eq_true rfl)⟩ dW_139 (fun r' hm1 hlm1 H2 locs2 h hPm hq hS => ?_)
  have hPx := wl_kept hPx hne hq
  obtain ⟨rfl, hR1⟩ := h
  exact lv_icmp_eq (tgt := 306) K.1 K.2.1 dW_142 rfl (fun _ => kk H2 locs2 ⟨hm1, hx1, hl1, hlm1, hPx, hPm, hS, hR1⟩) (fun hc => absurd rfl hc)
set_option maxRecDepth 100000 in
set_option maxHeartbeats 4000000 in
theorem lw_c3 (hk : Lk p s m c b L xs D cI cJ cC cZ cR kd sd vd kA lA wA ax am) (hi3 : i + 3 ≤ L) (hL : lv_has ls 4 [(0, .ref b), (1, .ref (ax 0)), (2, .ref (am 0)), (3, .int (nI i))]) (hI : Iv s D cI cJ cC cZ cR kd ax am H locs) (kk : ∀ (H : Heap) (locs : List Loc), Iv s D cI cJ cC cZ cR kd ax am H locs → W p l e room_1 s m #[.ref b] below meth c H locs 600000 7302250 Q (F0 m 306 ls [])) : W p l e room_1 s m #[.ref b] below meth c H locs 600000 7302250 Q (F0 m 147 ls []) := by
  obtain ⟨hm, hx, hl, hlm, hPx, hPm, hS, hR⟩ := hI
  obtain ⟨K, hX, hbl, hdX, hdM, hne, hZs, h31⟩ := hk
  have hbA : ¬ A0 s b := Nat.not_le.mpr hbl
  have hi1 : vp_in (nI i + 1) L := by rw [nI_1]; exact nI_in (by omega) h31
  have hi2 : vp_in (nI i + 2) L := by rw [nI_p2]; exact nI_in (by omega) h31
  refine lv_aload_n K.1 K.2.1 dW_147 rfl (lv_at hL 1 rfl) ?_
  refine lv_aload_n K.1 K.2.1 dW_148 rfl (lv_at hL 0 rfl) ?_
  refine lv_iload_n K.1 K.2.1 dW_149 rfl (lv_at hL 3 rfl) ?_
  refine lv_iconst (v := 1) K.1 K.2.1 dW_150 (by decide) ?_
  refine lv_iadd K.1 K.2.1 dW_151 ?_
  refine va_sld (i := nI i + 1) K.1 K.2.1 hX hbl hbA hS hi1 dW_152 ?_
  refine l_cV (N := 64) (ad := ax) (As := [.int (xs (nI i + 1).toNatClampNeg)]) (rest := []) K ZX_ok hZs hdX hPx hS calC_begin lk_27 0 (by decide) rfl rfl (mC_begin ZX_ok hdX.self (begin_ok (hlm := hlm) (xs (nI i + 1).toNatClampNeg) hR)) ⟨(Nat.le_of_ble_eq_true rfl), (Nat.le_of_ble_eq_true rfl)⟩ rfl hL.1 rfl (Nat.le_of_ble_eq_true rfl) ⟨(Nat.le_of_ble_eq_true rfl), (Nat.le_of_ble_eq_true rfl)⟩ dW_153 (fun hx1 hl1 H1 locs1 h hPx hq hS => ?_)
  have hPm := wl_kept hPm (fun i j hi hj he => hne j i hj hi he.symm) hq
  refine lv_aload_n K.1 K.2.1 dW_156 rfl (lv_at hL 2 rfl) ?_
  refine lv_aload_n K.1 K.2.1 dW_157 rfl (lv_at hL 0 rfl) ?_
  refine lv_iload_n K.1 K.2.1 dW_158 rfl (lv_at hL 3 rfl) ?_
  refine lv_iconst (v := 1) K.1 K.2.1 dW_159 (by decide) ?_
  refine lv_iadd K.1 K.2.1 dW_160 ?_
  refine va_sld (i := nI i + 1) K.1 K.2.1 hX hbl hbA hS hi1 dW_161 ?_
  refine l_cV (N := 21) (ad := am) (As := [.int (xs (nI i + 1).toNatClampNeg)]) (rest := []) K tt_ok trivial hdM hPm hS calM_begin lk_31 0 (by decide) rfl rfl (mM_begin tt_ok hdM.self h) ⟨(Nat.le_of_ble_eq_true rfl), (Nat.le_of_ble_eq_true rfl)⟩ rfl hL.1 rfl (Nat.le_of_ble_eq_true rfl) ⟨(Nat.le_of_ble_eq_true rfl), (Nat.le_of_ble_eq_true rfl)⟩ dW_162 (fun hm1 hlm1 H2 locs2 h hPm hq hS => ?_)
  have hPx := wl_kept hPx hne hq
  refine lv_goto (tgt := 306) K.1 K.2.1 dW_165 rfl ?_
  exact kk H2 locs2 ⟨hm1, hx1, hl1, hlm1, hPx, hPm, hS, h⟩
set_option maxRecDepth 100000 in
set_option maxHeartbeats 4000000 in
theorem lw_c4 (hk : Lk p s m c b L xs D cI cJ cC cZ cR kd sd vd kA lA wA ax am) (hi3 : i + 3 ≤ L) (hL : lv_has ls 4 [(0, .ref b), (1, .ref (ax 0)), (2, .ref (am 0)), (3, .int (nI i))]) (hI : Iv s D cI cJ cC cZ cR kd ax am H locs) (kk : ∀ (H : Heap) (locs : List Loc), Iv s D cI cJ cC cZ cR kd ax am H locs → W p l e room_1 s m #[.ref b] below meth c H locs 600000 7302250 Q (F0 m 306 ls [])) : W p l e room_1 s m #[.ref b] below meth c H locs 600000 7302250 Q (F0 m 168 ls []) := by
  obtain ⟨hm, hx, hl, hlm, hPx, hPm, hS, hR⟩ := hI
  obtain ⟨K, hX, hbl, hdX, hdM, hne, hZs, h31⟩ := hk
  have hbA : ¬ A0 s b := Nat.not_le.mpr hbl
  have hi1 : vp_in (nI i + 1) L := by rw [nI_1]; exact nI_in (by omega) h31
  have hi2 : vp_in (nI i + 2) L := by rw [nI_p2]; exact nI_in (by omega) h31
  refine lv_aload_n K.1 K.2.1 dW_168 rfl (lv_at hL 1 rfl) ?_
  refine lv_aload_n K.1 K.2.1 dW_169 rfl (lv_at hL 0 rfl) ?_
  refine lv_iload_n K.1 K.2.1 dW_170 rfl (lv_at hL 3 rfl) ?_
  refine lv_iconst (v := 1) K.1 K.2.1 dW_171 (by decide) ?_
  refine lv_iadd K.1 K.2.1 dW_172 ?_
  refine va_sld (i := nI i + 1) K.1 K.2.1 hX hbl hbA hS hi1 dW_173 ?_
  refine l_cI (N := 64) (ad := ax) (As := [.int (xs (nI i + 1).toNatClampNeg)]) (rest := []) K ZX_ok hZs hdX hPx hS calC_feed lk_32 0 (by decide) rfl rfl (mC_feed ZX_ok hdX.self (feed_ok (hlm := hlm) (xs (nI i + 1).toNatClampNeg) hR)) ⟨(Nat.le_of_ble_eq_true rfl), (Nat.le_of_ble_eq_true rfl)⟩ rfl hL.1 rfl (Nat.le_of_ble_eq_true rfl) ⟨(Nat.le_of_ble_eq_true rfl), (Nat.le_of_ble_eq_true rfl)⟩ dW_174 (fun r hx1 hl1 H1 locs1 h hPx hq hS => ?_)
  have hPm := wl_kept hPm (fun i j hi hj he => hne j i hj hi he.symm) hq
  refine lv_aload_n K.1 K.2.1 dW_177 rfl (lv_at hL 2 rfl) ?_
  refine lv_aload_n K.1 K.2.1 dW_178 rfl (lv_at hL 0 rfl) ?_
  refine lv_iload_n K.1 K.2.1 dW_179 rfl (lv_at hL 3 rfl) ?_
  refine lv_iconst (v := 1) K.1 K.2.1 dW_180 (by decide) ?_
  refine lv_iadd K.1 K.2.1 dW_181 ?_
  refine va_sld (i := nI i + 1) K.1 K.2.1 hX hbl hbA hS hi1 dW_182 ?_
  refine l_cI (N := 21) (ad := am) (As := [.int (xs (nI i + 1).toNatClampNeg)]) (rest := [.int r]) K tt_ok trivial hdM hPm hS calM_feed lk_36 0 (by decide) rfl rfl (mM_feed tt_ok hdM.self h) ⟨(Nat.le_of_ble_eq_true rfl), (Nat.le_of_ble_eq_true rfl)⟩ rfl hL.1 rfl (Nat.le_of_ble_eq_true rfl) ⟨(Nat.le_of_ble_eq_true rfl), (Nat.le_of_ble_eq_true rfl)⟩ dW_183 (fun r' hm1 hlm1 H2 locs2 h hPm hq hS => ?_)
  have hPx := wl_kept hPx hne hq
  obtain ⟨rfl, hR1⟩ := h
  exact lv_icmp_eq (tgt := 306) K.1 K.2.1 dW_186 rfl (fun _ => kk H2 locs2 ⟨hm1, hx1, hl1, hlm1, hPx, hPm, hS, hR1⟩) (fun hc => absurd rfl hc)
set_option maxRecDepth 100000 in
set_option maxHeartbeats 4000000 in
theorem lw_c5 (hk : Lk p s m c b L xs D cI cJ cC cZ cR kd sd vd kA lA wA ax am) (hi3 : i + 3 ≤ L) (hL : lv_has ls 4 [(0, .ref b), (1, .ref (ax 0)), (2, .ref (am 0)), (3, .int (nI i))]) (hI : Iv s D cI cJ cC cZ cR kd ax am H locs) (kk : ∀ (H : Heap) (locs : List Loc), Iv s D cI cJ cC cZ cR kd ax am H locs → W p l e room_1 s m #[.ref b] below meth c H locs 600000 7302250 Q (F0 m 306 ls [])) : W p l e room_1 s m #[.ref b] below meth c H locs 600000 7302250 Q (F0 m 191 ls []) := by
  obtain ⟨hm, hx, hl, hlm, hPx, hPm, hS, hR⟩ := hI
  obtain ⟨K, hX, hbl, hdX, hdM, hne, hZs, h31⟩ := hk
  have hbA : ¬ A0 s b := Nat.not_le.mpr hbl
  have hi1 : vp_in (nI i + 1) L := by rw [nI_1]; exact nI_in (by omega) h31
  have hi2 : vp_in (nI i + 2) L := by rw [nI_p2]; exact nI_in (by omega) h31
  refine lv_aload_n K.1 K.2.1 dW_191 rfl (lv_at hL 1 rfl) ?_
  refine l_cI (N := 64) (ad := ax) (As := []) (rest := []) K ZX_ok hZs hdX hPx hS calC_step lk_37 0 (by decide) rfl rfl (mC_step ZX_ok hdX.self (step_ok (hlm := hlm) hR)) ⟨(Nat.le_of_ble_eq_true rfl), (Nat.le_of_ble_eq_true rfl)⟩ rfl hL.1 rfl (Nat.le_of_ble_eq_true rfl) ⟨(Nat.le_of_ble_eq_true rfl), (Nat.le_of_ble_eq_true rfl)⟩ dW_192 (fun r hx1 hl1 H1 locs1 h hPx hq hS => ?_)
  have hPm := wl_kept hPm (fun i j hi hj he => hne j i hj hi he.symm) hq
  refine lv_aload_n K.1 K.2.1 dW_195 rfl (lv_at hL 2 rfl) ?_
  refine l_cI (N := 21) (ad := am) (As := []) (rest := [.int r]) K tt_ok trivial hdM hPm hS calM_step lk_41 0 (by decide) rfl rfl (mM_step tt_ok hdM.self h) ⟨(Nat.le_of_ble_eq_true rfl), (Nat.le_of_ble_eq_true rfl)⟩ rfl hL.1 rfl (Nat.le_of_ble_eq_true rfl) ⟨(Nat.le_of_ble_eq_true rfl), (Nat.le_of_ble_eq_true rfl)⟩ dW_196 (fun r' hm1 hlm1 H2 locs2 h hPm hq hS => ?_)
  have hPx := wl_kept hPx hne hq
  obtain ⟨rfl, hR1⟩ := h
  exact lv_icmp_eq (tgt := 306) K.1 K.2.1 dW_199 rfl (fun _ => kk H2 locs2 ⟨hm1, hx1, hl1, hlm1, hPx, hPm, hS, hR1⟩) (fun hc => absurd rfl hc)
set_option maxRecDepth 100000 in
set_option maxHeartbeats 4000000 in
theorem lw_c6 (hk : Lk p s m c b L xs D cI cJ cC cZ cR kd sd vd kA lA wA ax am) (hi3 : i + 3 ≤ L) (hL : lv_has ls 4 [(0, .ref b), (1, .ref (ax 0)), (2, .ref (am 0)), (3, .int (nI i))]) (hI : Iv s D cI cJ cC cZ cR kd ax am H locs) (kk : ∀ (H : Heap) (locs : List Loc), Iv s D cI cJ cC cZ cR kd ax am H locs → W p l e room_1 s m #[.ref b] below meth c H locs 600000 7302250 Q (F0 m 306 ls [])) : W p l e room_1 s m #[.ref b] below meth c H locs 600000 7302250 Q (F0 m 204 ls []) := by
  obtain ⟨hm, hx, hl, hlm, hPx, hPm, hS, hR⟩ := hI
  obtain ⟨K, hX, hbl, hdX, hdM, hne, hZs, h31⟩ := hk
  have hbA : ¬ A0 s b := Nat.not_le.mpr hbl
  have hi1 : vp_in (nI i + 1) L := by rw [nI_1]; exact nI_in (by omega) h31
  have hi2 : vp_in (nI i + 2) L := by rw [nI_p2]; exact nI_in (by omega) h31
  refine lv_aload_n K.1 K.2.1 dW_204 rfl (lv_at hL 1 rfl) ?_
  refine lv_aload_n K.1 K.2.1 dW_205 rfl (lv_at hL 0 rfl) ?_
  refine lv_iload_n K.1 K.2.1 dW_206 rfl (lv_at hL 3 rfl) ?_
  refine lv_iconst (v := 1) K.1 K.2.1 dW_207 (by decide) ?_
  refine lv_iadd K.1 K.2.1 dW_208 ?_
  refine va_sld (i := nI i + 1) K.1 K.2.1 hX hbl hbA hS hi1 dW_209 ?_
  refine l_cI (N := 64) (ad := ax) (As := [.int (xs (nI i + 1).toNatClampNeg)]) (rest := []) K ZX_ok hZs hdX hPx hS calC_value lk_42 0 (by decide) rfl rfl (mC_value ZX_ok hdX.self (value_ok (hlm := hlm) (xs (nI i + 1).toNatClampNeg) hR)) ⟨(Nat.le_of_ble_eq_true rfl), (Nat.le_of_ble_eq_true rfl)⟩ rfl hL.1 rfl (Nat.le_of_ble_eq_true rfl) ⟨(Nat.le_of_ble_eq_true rfl), (Nat.le_of_ble_eq_true rfl)⟩ dW_210 (fun r hx1 hl1 H1 locs1 h hPx hq hS => ?_)
  have hPm := wl_kept hPm (fun i j hi hj he => hne j i hj hi he.symm) hq
  refine lv_aload_n K.1 K.2.1 dW_213 rfl (lv_at hL 2 rfl) ?_
  refine lv_aload_n K.1 K.2.1 dW_214 rfl (lv_at hL 0 rfl) ?_
  refine lv_iload_n K.1 K.2.1 dW_215 rfl (lv_at hL 3 rfl) ?_
  refine lv_iconst (v := 1) K.1 K.2.1 dW_216 (by decide) ?_
  refine lv_iadd K.1 K.2.1 dW_217 ?_
  refine va_sld (i := nI i + 1) K.1 K.2.1 hX hbl hbA hS hi1 dW_218 ?_
  refine l_cI (N := 21) (ad := am) (As := [.int (xs (nI i + 1).toNatClampNeg)]) (rest := [.int r]) K tt_ok trivial hdM hPm hS calM_value lk_46 0 (by decide) rfl rfl (mM_value tt_ok hdM.self h) ⟨(Nat.le_of_ble_eq_true rfl), (Nat.le_of_ble_eq_true rfl)⟩ rfl hL.1 rfl (Nat.le_of_ble_eq_true rfl) ⟨(Nat.le_of_ble_eq_true rfl), (Nat.le_of_ble_eq_true rfl)⟩ dW_219 (fun r' hm1 hlm1 H2 locs2 h hPm hq hS => ?_)
  have hPx := wl_kept hPx hne hq
  obtain ⟨rfl, hR1⟩ := h
  exact lv_icmp_eq (tgt := 306) K.1 K.2.1 dW_222 rfl (fun _ => kk H2 locs2 ⟨hm1, hx1, hl1, hlm1, hPx, hPm, hS, hR1⟩) (fun hc => absurd rfl hc)
set_option maxRecDepth 100000 in
set_option maxHeartbeats 4000000 in
theorem lw_c7 (hk : Lk p s m c b L xs D cI cJ cC cZ cR kd sd vd kA lA wA ax am) (hi3 : i + 3 ≤ L) (hL : lv_has ls 4 [(0, .ref b), (1, .ref (ax 0)), (2, .ref (am 0)), (3, .int (nI i))]) (hI : Iv s D cI cJ cC cZ cR kd ax am H locs) (kk : ∀ (H : Heap) (locs : List Loc), Iv s D cI cJ cC cZ cR kd ax am H locs → W p l e room_1 s m #[.ref b] below meth c H locs 600000 7302250 Q (F0 m 306 ls [])) : W p l e room_1 s m #[.ref b] below meth c H locs 600000 7302250 Q (F0 m 227 ls []) := by
  obtain ⟨hm, hx, hl, hlm, hPx, hPm, hS, hR⟩ := hI
  obtain ⟨K, hX, hbl, hdX, hdM, hne, hZs, h31⟩ := hk
  have hbA : ¬ A0 s b := Nat.not_le.mpr hbl
  have hi1 : vp_in (nI i + 1) L := by rw [nI_1]; exact nI_in (by omega) h31
  have hi2 : vp_in (nI i + 2) L := by rw [nI_p2]; exact nI_in (by omega) h31
  refine lv_aload_n K.1 K.2.1 dW_227 rfl (lv_at hL 1 rfl) ?_
  refine lv_aload_n K.1 K.2.1 dW_228 rfl (lv_at hL 0 rfl) ?_
  refine lv_iload_n K.1 K.2.1 dW_229 rfl (lv_at hL 3 rfl) ?_
  refine lv_iconst (v := 1) K.1 K.2.1 dW_230 (by decide) ?_
  refine lv_iadd K.1 K.2.1 dW_231 ?_
  refine va_sld (i := nI i + 1) K.1 K.2.1 hX hbl hbA hS hi1 dW_232 ?_
  refine l_cI (N := 64) (ad := ax) (As := [.int (xs (nI i + 1).toNatClampNeg)]) (rest := []) K ZX_ok hZs hdX hPx hS calC_find lk_47 0 (by decide) rfl rfl (mC_find ZX_ok hdX.self (find_ok (hlm := hlm) (xs (nI i + 1).toNatClampNeg) hR)) ⟨(Nat.le_of_ble_eq_true rfl), (Nat.le_of_ble_eq_true rfl)⟩ rfl hL.1 rfl (Nat.le_of_ble_eq_true rfl) ⟨(Nat.le_of_ble_eq_true rfl), (Nat.le_of_ble_eq_true rfl)⟩ dW_233 (fun r hx1 hl1 H1 locs1 h hPx hq hS => ?_)
  have hPm := wl_kept hPm (fun i j hi hj he => hne j i hj hi he.symm) hq
  refine lv_aload_n K.1 K.2.1 dW_236 rfl (lv_at hL 2 rfl) ?_
  refine lv_aload_n K.1 K.2.1 dW_237 rfl (lv_at hL 0 rfl) ?_
  refine lv_iload_n K.1 K.2.1 dW_238 rfl (lv_at hL 3 rfl) ?_
  refine lv_iconst (v := 1) K.1 K.2.1 dW_239 (by decide) ?_
  refine lv_iadd K.1 K.2.1 dW_240 ?_
  refine va_sld (i := nI i + 1) K.1 K.2.1 hX hbl hbA hS hi1 dW_241 ?_
  refine l_cI (N := 21) (ad := am) (As := [.int (xs (nI i + 1).toNatClampNeg)]) (rest := [.int r]) K tt_ok trivial hdM hPm hS calM_find lk_50 0 (by decide) rfl rfl (mM_find tt_ok hdM.self h) ⟨(Nat.le_of_ble_eq_true rfl), (Nat.le_of_ble_eq_true rfl)⟩ rfl hL.1 rfl (Nat.le_of_ble_eq_true rfl) ⟨(Nat.le_of_ble_eq_true rfl), (Nat.le_of_ble_eq_true rfl)⟩ dW_242 (fun r' hm1 hlm1 H2 locs2 h hPm hq hS => ?_)
  have hPx := wl_kept hPx hne hq
  obtain ⟨rfl, hR1⟩ := h
  exact lv_icmp_eq (tgt := 306) K.1 K.2.1 dW_245 rfl (fun _ => kk H2 locs2 ⟨hm1, hx1, hl1, hlm1, hPx, hPm, hS, hR1⟩) (fun hc => absurd rfl hc)
set_option maxRecDepth 100000 in
set_option maxHeartbeats 4000000 in
theorem lw_c8 (hk : Lk p s m c b L xs D cI cJ cC cZ cR kd sd vd kA lA wA ax am) (hi3 : i + 3 ≤ L) (hL : lv_has ls 4 [(0, .ref b), (1, .ref (ax 0)), (2, .ref (am 0)), (3, .int (nI i))]) (hI : Iv s D cI cJ cC cZ cR kd ax am H locs) (kk : ∀ (H : Heap) (locs : List Loc), Iv s D cI cJ cC cZ cR kd ax am H locs → W p l e room_1 s m #[.ref b] below meth c H locs 600000 7302250 Q (F0 m 306 ls [])) : W p l e room_1 s m #[.ref b] below meth c H locs 600000 7302250 Q (F0 m 250 ls []) := by
  obtain ⟨hm, hx, hl, hlm, hPx, hPm, hS, hR⟩ := hI
  obtain ⟨K, hX, hbl, hdX, hdM, hne, hZs, h31⟩ := hk
  have hbA : ¬ A0 s b := Nat.not_le.mpr hbl
  have hi1 : vp_in (nI i + 1) L := by rw [nI_1]; exact nI_in (by omega) h31
  have hi2 : vp_in (nI i + 2) L := by rw [nI_p2]; exact nI_in (by omega) h31
  refine lv_aload_n K.1 K.2.1 dW_250 rfl (lv_at hL 1 rfl) ?_
  refine lv_aload_n K.1 K.2.1 dW_251 rfl (lv_at hL 0 rfl) ?_
  refine lv_iload_n K.1 K.2.1 dW_252 rfl (lv_at hL 3 rfl) ?_
  refine lv_iconst (v := 1) K.1 K.2.1 dW_253 (by decide) ?_
  refine lv_iadd K.1 K.2.1 dW_254 ?_
  refine va_sld (i := nI i + 1) K.1 K.2.1 hX hbl hbA hS hi1 dW_255 ?_
  refine lv_aload_n K.1 K.2.1 dW_256 rfl (lv_at hL 0 rfl) ?_
  refine lv_iload_n K.1 K.2.1 dW_257 rfl (lv_at hL 3 rfl) ?_
  refine lv_iconst (v := 2) K.1 K.2.1 dW_258 (by decide) ?_
  refine lv_iadd K.1 K.2.1 dW_259 ?_
  refine va_sld (i := nI i + 2) K.1 K.2.1 hX hbl hbA hS hi2 dW_260 ?_
  refine l_cI (N := 64) (ad := ax) (As := [.int (xs (nI i + 1).toNatClampNeg), .int (xs (nI i + 2).toNatClampNeg)]) (rest := []) K ZX_ok hZs hdX hPx hS calC_shown lk_51 0 (by decide) rfl rfl (mC_shown ZX_ok hdX.self (shown_ok (hlm := hlm) (xs (nI i + 1).toNatClampNeg) (xs (nI i + 2).toNatClampNeg) hR)) ⟨(Nat.le_of_ble_eq_true rfl), (Nat.le_of_ble_eq_true rfl)⟩ rfl hL.1 rfl (Nat.le_of_ble_eq_true rfl) ⟨(Nat.le_of_ble_eq_true rfl), (Nat.le_of_ble_eq_true rfl)⟩ dW_261 (fun r hx1 hl1 H1 locs1 h hPx hq hS => ?_)
  have hPm := wl_kept hPm (fun i j hi hj he => hne j i hj hi he.symm) hq
  refine lv_aload_n K.1 K.2.1 dW_264 rfl (lv_at hL 2 rfl) ?_
  refine lv_aload_n K.1 K.2.1 dW_265 rfl (lv_at hL 0 rfl) ?_
  refine lv_iload_n K.1 K.2.1 dW_266 rfl (lv_at hL 3 rfl) ?_
  refine lv_iconst (v := 1) K.1 K.2.1 dW_267 (by decide) ?_
  refine lv_iadd K.1 K.2.1 dW_268 ?_
  refine va_sld (i := nI i + 1) K.1 K.2.1 hX hbl hbA hS hi1 dW_269 ?_
  refine lv_aload_n K.1 K.2.1 dW_270 rfl (lv_at hL 0 rfl) ?_
  refine lv_iload_n K.1 K.2.1 dW_271 rfl (lv_at hL 3 rfl) ?_
  refine lv_iconst (v := 2) K.1 K.2.1 dW_272 (by decide) ?_
  refine lv_iadd K.1 K.2.1 dW_273 ?_
  refine va_sld (i := nI i + 2) K.1 K.2.1 hX hbl hbA hS hi2 dW_274 ?_
  refine l_cI (N := 21) (ad := am) (As := [.int (xs (nI i + 1).toNatClampNeg), .int (xs (nI i + 2).toNatClampNeg)]) (rest := [.int r]) K tt_ok trivial hdM hPm hS calM_shown lk_55 0 (by decide) rfl rfl (mM_shown tt_ok hdM.self h) ⟨(Nat.le_of_ble_eq_true rfl), (Nat.le_of_ble_eq_true rfl)⟩ rfl hL.1 rfl (Nat.le_of_ble_eq_true rfl) ⟨(Nat.le_of_ble_eq_true rfl), (Nat.le_of_ble_eq_true rfl)⟩ dW_275 (fun r' hm1 hlm1 H2 locs2 h hPm hq hS => ?_)
  have hPx := wl_kept hPx hne hq
  obtain ⟨rfl, hR1⟩ := h
  exact lv_icmp_eq (tgt := 306) K.1 K.2.1 dW_278 rfl (fun _ => kk H2 locs2 ⟨hm1, hx1, hl1, hlm1, hPx, hPm, hS, hR1⟩) (fun hc => absurd rfl hc)
set_option maxRecDepth 100000 in
set_option maxHeartbeats 4000000 in
theorem lw_c9 (hk : Lk p s m c b L xs D cI cJ cC cZ cR kd sd vd kA lA wA ax am) (hi3 : i + 3 ≤ L) (hL : lv_has ls 4 [(0, .ref b), (1, .ref (ax 0)), (2, .ref (am 0)), (3, .int (nI i))]) (hI : Iv s D cI cJ cC cZ cR kd ax am H locs) (kk : ∀ (H : Heap) (locs : List Loc), Iv s D cI cJ cC cZ cR kd ax am H locs → W p l e room_1 s m #[.ref b] below meth c H locs 600000 7302250 Q (F0 m 306 ls [])) : W p l e room_1 s m #[.ref b] below meth c H locs 600000 7302250 Q (F0 m 283 ls []) := by
  obtain ⟨hm, hx, hl, hlm, hPx, hPm, hS, hR⟩ := hI
  obtain ⟨K, hX, hbl, hdX, hdM, hne, hZs, h31⟩ := hk
  have hbA : ¬ A0 s b := Nat.not_le.mpr hbl
  have hi1 : vp_in (nI i + 1) L := by rw [nI_1]; exact nI_in (by omega) h31
  have hi2 : vp_in (nI i + 2) L := by rw [nI_p2]; exact nI_in (by omega) h31
  refine lv_aload_n K.1 K.2.1 dW_283 rfl (lv_at hL 1 rfl) ?_
  refine lv_aload_n K.1 K.2.1 dW_284 rfl (lv_at hL 0 rfl) ?_
  refine lv_iload_n K.1 K.2.1 dW_285 rfl (lv_at hL 3 rfl) ?_
  refine lv_iconst (v := 1) K.1 K.2.1 dW_286 (by decide) ?_
  refine lv_iadd K.1 K.2.1 dW_287 ?_
  refine va_sld (i := nI i + 1) K.1 K.2.1 hX hbl hbA hS hi1 dW_288 ?_
  refine l_cI (N := 64) (ad := ax) (As := [.int (xs (nI i + 1).toNatClampNeg)]) (rest := []) K ZX_ok hZs hdX hPx hS calC_prove lk_56 0 (by decide) rfl rfl (mC_prove ZX_ok hdX.self (prove_ok (hlm := hlm) (xs (nI i + 1).toNatClampNeg) hR)) ⟨(Nat.le_of_ble_eq_true rfl), (Nat.le_of_ble_eq_true rfl)⟩ rfl hL.1 rfl (Nat.le_of_ble_eq_true rfl) ⟨(Nat.le_of_ble_eq_true rfl), (Nat.le_of_ble_eq_true rfl)⟩ dW_289 (fun r hx1 hl1 H1 locs1 h hPx hq hS => ?_)
  have hPm := wl_kept hPm (fun i j hi hj he => hne j i hj hi he.symm) hq
  refine lv_aload_n K.1 K.2.1 dW_292 rfl (lv_at hL 2 rfl) ?_
  refine lv_aload_n K.1 K.2.1 dW_293 rfl (lv_at hL 0 rfl) ?_
  refine lv_iload_n K.1 K.2.1 dW_294 rfl (lv_at hL 3 rfl) ?_
  refine lv_iconst (v := 1) K.1 K.2.1 dW_295 (by decide) ?_
  refine lv_iadd K.1 K.2.1 dW_296 ?_
  refine va_sld (i := nI i + 1) K.1 K.2.1 hX hbl hbA hS hi1 dW_297 ?_
  refine l_cI (N := 21) (ad := am) (As := [.int (xs (nI i + 1).toNatClampNeg)]) (rest := [.int r]) K tt_ok trivial hdM hPm hS calM_prove lk_59 0 (by decide) rfl rfl (mM_prove tt_ok hdM.self h) ⟨(Nat.le_of_ble_eq_true rfl), (Nat.le_of_ble_eq_true rfl)⟩ rfl hL.1 rfl (Nat.le_of_ble_eq_true rfl) ⟨(Nat.le_of_ble_eq_true rfl), (Nat.le_of_ble_eq_true rfl)⟩ dW_298 (fun r' hm1 hlm1 H2 locs2 h hPm hq hS => ?_)
  have hPx := wl_kept hPx hne hq
  obtain ⟨rfl, hR1⟩ := h
  exact lv_icmp_eq (tgt := 306) K.1 K.2.1 dW_301 rfl (fun _ => kk H2 locs2 ⟨hm1, hx1, hl1, hlm1, hPx, hPm, hS, hR1⟩) (fun hc => absurd rfl hc)
theorem lt3 {i L : Nat} (hi : i < 2 ^ 31) (hL : L < 2 ^ 31) (h : ¬ nI L - 3 < nI i) : i + 3 ≤ L := by
  have e : (nI L - 3).toInt = (L : Int) - 3 := by
    rw [Int32.toInt_sub, nI_toInt hL, show (3 : Int32).toInt = 3 from by decide]
    apply Int.bmod_eq_of_le <;> omega
  have h2 : ¬ ((nI L - 3).toInt < (nI i).toInt) := fun q => h (Int32.lt_iff_toInt_lt.mpr q)
  rw [e, nI_toInt hi] at h2
  omega
set_option maxRecDepth 100000 in
set_option maxHeartbeats 4000000 in
theorem lw_loop (hk : Lk p s m c b L xs D cI cJ cC cZ cR kd sd vd kA lA wA ax am) (kend : ∀ (ls : Array Slot) (H : Heap) (locs : List Loc), va_S (A0 s) s.heap H locs → W p l e room_1 s m #[.ref b] below meth c H locs 600000 7302250 Q (F0 m 312 ls [])) :
    ∀ (n i : Nat), L < i + n → i ≤ L → ∀ (ls : Array Slot) (H : Heap) (locs : List Loc), lv_has ls 4 [(0, .ref b), (1, .ref (ax 0)), (2, .ref (am 0)), (3, .int (nI i))] → Iv s D cI cJ cC cZ cR kd ax am H locs → W p l e room_1 s m #[.ref b] below meth c H locs 600000 7302250 Q (F0 m 18 ls []) := by
  intro n
  induction n with
  | zero => intro i h1 h2; omega
  | succ n ih =>
    intro i h1 h2 ls H locs hL hI
    obtain ⟨K, hX, hbl, hdX, hdM, hne, hZs, h31⟩ := id hk
    have hbA : ¬ A0 s b := Nat.not_le.mpr hbl
    have hS : va_S (A0 s) s.heap H locs := by obtain ⟨_, _, _, _, _, _, h, _⟩ := hI; exact h
    refine lv_iload_n K.1 K.2.1 dW_18 rfl (lv_at hL 3 rfl) ?_
    refine lv_aload_n K.1 K.2.1 dW_19 rfl (lv_at hL 0 rfl) ?_
    refine va_slen K.1 K.2.1 hX hbl hbA hS dW_20 ?_
    refine lv_iconst (v := 3) K.1 K.2.1 dW_21 (by decide) ?_
    refine lv_isub K.1 K.2.1 dW_22 ?_
    refine lv_icmp_gt (tgt := 312) K.1 K.2.1 dW_23 rfl (fun hc => kend ls H locs hS) (fun hc => ?_)
    have hi3 : i + 3 ≤ L := lt3 (by omega) h31 hc
    have knext : ∀ (H : Heap) (locs : List Loc), Iv s D cI cJ cC cZ cR kd ax am H locs → W p l e room_1 s m #[.ref b] below meth c H locs 600000 7302250 Q (F0 m 306 ls []) := by
      intro H locs hI
      refine lv_iinc (k := 3) (v := nI (i + 3)) (lv' := [(3, .int (nI (i + 3))), (0, .ref b), (1, .ref (ax 0)), (2, .ref (am 0))]) K.1 K.2.1 dW_306 hL rfl (nI_p3 i) (by decide) rfl (fun ls hL => ?_)
      refine lv_goto (tgt := 18) K.1 K.2.1 dW_309 rfl ?_
      exact ih (i + 3) (by omega) hi3 ls H locs (lv_sub hL [1, 2, 3, 0] rfl) hI
    refine lv_aload_n K.1 K.2.1 dW_26 rfl (lv_at hL 0 rfl) ?_
    refine lv_iload_n K.1 K.2.1 dW_27 rfl (lv_at hL 3 rfl) ?_
    refine va_sld (i := nI i) K.1 K.2.1 hX hbl hbA hS (nI_in (by omega) h31) dW_28 ?_
    refine lv_bipush (v := 15) K.1 K.2.1 dW_29 (by decide) ?_
    refine lv_iand K.1 K.2.1 dW_31 ?_
    generalize xs (nI i).toNatClampNeg &&& 15 = v
    by_cases hz : True
    · clear hz
      by_cases h0 : v = 0
      · refine lv_tableIn (off := 56) (tgt := 88) K.1 K.2.1 dW_32 (by rw [h0]; decide) (by rw [h0]; decide) (by rw [h0]; rfl) rfl ?_
        exact lw_c0 hk hi3 hL hI knext
      by_cases h1 : v = 1
      · refine lv_tableIn (off := 89) (tgt := 121) K.1 K.2.1 dW_32 (by rw [h1]; decide) (by rw [h1]; decide) (by rw [h1]; rfl) rfl ?_
        exact lw_c1 hk hi3 hL hI knext
      by_cases h2 : v = 2
      · refine lv_tableIn (off := 102) (tgt := 134) K.1 K.2.1 dW_32 (by rw [h2]; decide) (by rw [h2]; decide) (by rw [h2]; rfl) rfl ?_
        exact lw_c2 hk hi3 hL hI knext
      by_cases h3 : v = 3
      · refine lv_tableIn (off := 115) (tgt := 147) K.1 K.2.1 dW_32 (by rw [h3]; decide) (by rw [h3]; decide) (by rw [h3]; rfl) rfl ?_
        exact lw_c3 hk hi3 hL hI knext
      by_cases h4 : v = 4
      · refine lv_tableIn (off := 136) (tgt := 168) K.1 K.2.1 dW_32 (by rw [h4]; decide) (by rw [h4]; decide) (by rw [h4]; rfl) rfl ?_
        exact lw_c4 hk hi3 hL hI knext
      by_cases h5 : v = 5
      · refine lv_tableIn (off := 159) (tgt := 191) K.1 K.2.1 dW_32 (by rw [h5]; decide) (by rw [h5]; decide) (by rw [h5]; rfl) rfl ?_
        exact lw_c5 hk hi3 hL hI knext
      by_cases h6 : v = 6
      · refine lv_tableIn (off := 172) (tgt := 204) K.1 K.2.1 dW_32 (by rw [h6]; decide) (by rw [h6]; decide) (by rw [h6]; rfl) rfl ?_
        exact lw_c6 hk hi3 hL hI knext
      by_cases h7 : v = 7
      · refine lv_tableIn (off := 195) (tgt := 227) K.1 K.2.1 dW_32 (by rw [h7]; decide) (by rw [h7]; decide) (by rw [h7]; rfl) rfl ?_
        exact lw_c7 hk hi3 hL hI knext
      by_cases h8 : v = 8
      · refine lv_tableIn (off := 218) (tgt := 250) K.1 K.2.1 dW_32 (by rw [h8]; decide) (by rw [h8]; decide) (by rw [h8]; rfl) rfl ?_
        exact lw_c8 hk hi3 hL hI knext
      by_cases h9 : v = 9
      · refine lv_tableIn (off := 251) (tgt := 283) K.1 K.2.1 dW_32 (by rw [h9]; decide) (by rw [h9]; decide) (by rw [h9]; rfl) rfl ?_
        exact lw_c9 hk hi3 hL hI knext
      refine lv_tableOut (tgt := 306) K.1 K.2.1 dW_32 (by have e0 := i_ne h0 (n := 0) (by decide); have e1 := i_ne h1 (n := 1) (by decide); have e2 := i_ne h2 (n := 2) (by decide); have e3 := i_ne h3 (n := 3) (by decide); have e4 := i_ne h4 (n := 4) (by decide); have e5 := i_ne h5 (n := 5) (by decide); have e6 := i_ne h6 (n := 6) (by decide); have e7 := i_ne h7 (n := 7) (by decide); have e8 := i_ne h8 (n := 8) (by decide); have e9 := i_ne h9 (n := 9) (by decide); omega) rfl ?_
      exact knext H locs hI
    · exact absurd trivial hz
end LW
