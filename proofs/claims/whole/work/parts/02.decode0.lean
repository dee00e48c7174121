theorem dJ6_bitCount_0f7a4_0 : decode cJ6_bitCount_0f7a4 0 = .ok (.iload_n 0, 1) := by decide +kernel
theorem dJ6_bitCount_0f7a4_1 : decode cJ6_bitCount_0f7a4 1 = .ok (.iload_n 0, 1) := by decide +kernel
theorem dJ6_bitCount_0f7a4_2 : decode cJ6_bitCount_0f7a4 2 = .ok (.iconst 1, 1) := by decide +kernel
theorem dJ6_bitCount_0f7a4_3 : decode cJ6_bitCount_0f7a4 3 = .ok (.iushr, 1) := by decide +kernel
theorem dJ6_bitCount_0f7a4_4 : decode cJ6_bitCount_0f7a4 4 = .ok (.ldc_w 265, 3) := by decide +kernel
theorem dJ6_bitCount_0f7a4_7 : decode cJ6_bitCount_0f7a4 7 = .ok (.iand, 1) := by decide +kernel
theorem dJ6_bitCount_0f7a4_8 : decode cJ6_bitCount_0f7a4 8 = .ok (.isub, 1) := by decide +kernel
theorem dJ6_bitCount_0f7a4_9 : decode cJ6_bitCount_0f7a4 9 = .ok (.istore_n 0, 1) := by decide +kernel
theorem dJ6_bitCount_0f7a4_10 : decode cJ6_bitCount_0f7a4 10 = .ok (.iload_n 0, 1) := by decide +kernel
theorem dJ6_bitCount_0f7a4_11 : decode cJ6_bitCount_0f7a4 11 = .ok (.ldc_w 266, 3) := by decide +kernel
theorem dJ6_bitCount_0f7a4_14 : decode cJ6_bitCount_0f7a4 14 = .ok (.iand, 1) := by decide +kernel
theorem dJ6_bitCount_0f7a4_15 : decode cJ6_bitCount_0f7a4 15 = .ok (.iload_n 0, 1) := by decide +kernel
theorem dJ6_bitCount_0f7a4_16 : decode cJ6_bitCount_0f7a4 16 = .ok (.iconst 2, 1) := by decide +kernel
theorem dJ6_bitCount_0f7a4_17 : decode cJ6_bitCount_0f7a4 17 = .ok (.iushr, 1) := by decide +kernel
theorem dJ6_bitCount_0f7a4_18 : decode cJ6_bitCount_0f7a4 18 = .ok (.ldc_w 266, 3) := by decide +kernel
theorem dJ6_bitCount_0f7a4_21 : decode cJ6_bitCount_0f7a4 21 = .ok (.iand, 1) := by decide +kernel
theorem dJ6_bitCount_0f7a4_22 : decode cJ6_bitCount_0f7a4 22 = .ok (.iadd, 1) := by decide +kernel
theorem dJ6_bitCount_0f7a4_23 : decode cJ6_bitCount_0f7a4 23 = .ok (.istore_n 0, 1) := by decide +kernel
theorem dJ6_bitCount_0f7a4_24 : decode cJ6_bitCount_0f7a4 24 = .ok (.iload_n 0, 1) := by decide +kernel
theorem dJ6_bitCount_0f7a4_25 : decode cJ6_bitCount_0f7a4 25 = .ok (.iload_n 0, 1) := by decide +kernel
theorem dJ6_bitCount_0f7a4_26 : decode cJ6_bitCount_0f7a4 26 = .ok (.iconst 4, 1) := by decide +kernel
theorem dJ6_bitCount_0f7a4_27 : decode cJ6_bitCount_0f7a4 27 = .ok (.iushr, 1) := by decide +kernel
theorem dJ6_bitCount_0f7a4_28 : decode cJ6_bitCount_0f7a4 28 = .ok (.iadd, 1) := by decide +kernel
theorem dJ6_bitCount_0f7a4_29 : decode cJ6_bitCount_0f7a4 29 = .ok (.ldc_w 267, 3) := by decide +kernel
theorem dJ6_bitCount_0f7a4_32 : decode cJ6_bitCount_0f7a4 32 = .ok (.iand, 1) := by decide +kernel
theorem dJ6_bitCount_0f7a4_33 : decode cJ6_bitCount_0f7a4 33 = .ok (.istore_n 0, 1) := by decide +kernel
theorem dJ6_bitCount_0f7a4_34 : decode cJ6_bitCount_0f7a4 34 = .ok (.iload_n 0, 1) := by decide +kernel
theorem dJ6_bitCount_0f7a4_35 : decode cJ6_bitCount_0f7a4 35 = .ok (.iload_n 0, 1) := by decide +kernel
theorem dJ6_bitCount_0f7a4_36 : decode cJ6_bitCount_0f7a4 36 = .ok (.bipush 8, 2) := by decide +kernel
theorem dJ6_bitCount_0f7a4_38 : decode cJ6_bitCount_0f7a4 38 = .ok (.iushr, 1) := by decide +kernel
theorem dJ6_bitCount_0f7a4_39 : decode cJ6_bitCount_0f7a4 39 = .ok (.iadd, 1) := by decide +kernel
theorem dJ6_bitCount_0f7a4_40 : decode cJ6_bitCount_0f7a4 40 = .ok (.istore_n 0, 1) := by decide +kernel
theorem dJ6_bitCount_0f7a4_41 : decode cJ6_bitCount_0f7a4 41 = .ok (.iload_n 0, 1) := by decide +kernel
theorem dJ6_bitCount_0f7a4_42 : decode cJ6_bitCount_0f7a4 42 = .ok (.iload_n 0, 1) := by decide +kernel
theorem dJ6_bitCount_0f7a4_43 : decode cJ6_bitCount_0f7a4 43 = .ok (.bipush 16, 2) := by decide +kernel
theorem dJ6_bitCount_0f7a4_45 : decode cJ6_bitCount_0f7a4 45 = .ok (.iushr, 1) := by decide +kernel
theorem dJ6_bitCount_0f7a4_46 : decode cJ6_bitCount_0f7a4 46 = .ok (.iadd, 1) := by decide +kernel
theorem dJ6_bitCount_0f7a4_47 : decode cJ6_bitCount_0f7a4 47 = .ok (.istore_n 0, 1) := by decide +kernel
theorem dJ6_bitCount_0f7a4_48 : decode cJ6_bitCount_0f7a4 48 = .ok (.iload_n 0, 1) := by decide +kernel
theorem dJ6_bitCount_0f7a4_49 : decode cJ6_bitCount_0f7a4 49 = .ok (.bipush 63, 2) := by decide +kernel
theorem dJ6_bitCount_0f7a4_51 : decode cJ6_bitCount_0f7a4 51 = .ok (.iand, 1) := by decide +kernel
theorem dJ6_bitCount_0f7a4_52 : decode cJ6_bitCount_0f7a4 52 = .ok (.ireturn, 1) := by decide +kernel
theorem dJ7_fill_53178_0 : decode cJ7_fill_53178 0 = .ok (.iconst 0, 1) := by decide +kernel
theorem dJ7_fill_53178_1 : decode cJ7_fill_53178 1 = .ok (.istore_n 2, 1) := by decide +kernel
theorem dJ7_fill_53178_2 : decode cJ7_fill_53178 2 = .ok (.aload_n 0, 1) := by decide +kernel
theorem dJ7_fill_53178_3 : decode cJ7_fill_53178 3 = .ok (.arraylength, 1) := by decide +kernel
theorem dJ7_fill_53178_4 : decode cJ7_fill_53178 4 = .ok (.istore_n 3, 1) := by decide +kernel
theorem dJ7_fill_53178_5 : decode cJ7_fill_53178 5 = .ok (.iload_n 2, 1) := by decide +kernel
theorem dJ7_fill_53178_6 : decode cJ7_fill_53178 6 = .ok (.iload_n 3, 1) := by decide +kernel
theorem dJ7_fill_53178_7 : decode cJ7_fill_53178 7 = .ok (.if_icmp .ge 13, 3) := by decide +kernel
theorem dJ7_fill_53178_10 : decode cJ7_fill_53178 10 = .ok (.aload_n 0, 1) := by decide +kernel
theorem dJ7_fill_53178_11 : decode cJ7_fill_53178 11 = .ok (.iload_n 2, 1) := by decide +kernel
theorem dJ7_fill_53178_12 : decode cJ7_fill_53178 12 = .ok (.iload_n 1, 1) := by decide +kernel
theorem dJ7_fill_53178_13 : decode cJ7_fill_53178 13 = .ok (.iastore, 1) := by decide +kernel
theorem dJ7_fill_53178_14 : decode cJ7_fill_53178 14 = .ok (.iinc 2 1, 3) := by decide +kernel
theorem dJ7_fill_53178_17 : decode cJ7_fill_53178 17 = .ok (.goto (-12), 3) := by decide +kernel
theorem dJ7_fill_53178_20 : decode cJ7_fill_53178 20 = .ok (.return_, 1) := by decide +kernel
theorem dJ9_max_7cf53_0 : decode cJ9_max_7cf53 0 = .ok (.iload_n 0, 1) := by decide +kernel
theorem dJ9_max_7cf53_1 : decode cJ9_max_7cf53 1 = .ok (.iload_n 1, 1) := by decide +kernel
theorem dJ9_max_7cf53_2 : decode cJ9_max_7cf53 2 = .ok (.if_icmp .lt 7, 3) := by decide +kernel
theorem dJ9_max_7cf53_5 : decode cJ9_max_7cf53 5 = .ok (.iload_n 0, 1) := by decide +kernel
theorem dJ9_max_7cf53_6 : decode cJ9_max_7cf53 6 = .ok (.goto 4, 3) := by decide +kernel
theorem dJ9_max_7cf53_9 : decode cJ9_max_7cf53 9 = .ok (.iload_n 1, 1) := by decide +kernel
theorem dJ9_max_7cf53_10 : decode cJ9_max_7cf53 10 = .ok (.ireturn, 1) := by decide +kernel
theorem dJ9_min_7cf53_0 : decode cJ9_min_7cf53 0 = .ok (.iload_n 0, 1) := by decide +kernel
theorem dJ9_min_7cf53_1 : decode cJ9_min_7cf53 1 = .ok (.iload_n 1, 1) := by decide +kernel
theorem dJ9_min_7cf53_2 : decode cJ9_min_7cf53 2 = .ok (.if_icmp .gt 7, 3) := by decide +kernel
theorem dJ9_min_7cf53_5 : decode cJ9_min_7cf53 5 = .ok (.iload_n 0, 1) := by decide +kernel
theorem dJ9_min_7cf53_6 : decode cJ9_min_7cf53 6 = .ok (.goto 4, 3) := by decide +kernel
theorem dJ9_min_7cf53_9 : decode cJ9_min_7cf53 9 = .ok (.iload_n 1, 1) := by decide +kernel
theorem dJ9_min_7cf53_10 : decode cJ9_min_7cf53 10 = .ok (.ireturn, 1) := by decide +kernel
theorem dL_law_0 : decode cL_law 0 = .ok (.new 7, 3) := by decide +kernel
theorem dL_law_3 : decode cL_law 3 = .ok (.dup, 1) := by decide +kernel
theorem dL_law_4 : decode cL_law 4 = .ok (.invokespecial 9, 3) := by decide +kernel
theorem dL_law_7 : decode cL_law 7 = .ok (.astore_n 1, 1) := by decide +kernel
theorem dL_law_8 : decode cL_law 8 = .ok (.new 10, 3) := by decide +kernel
theorem dL_law_11 : decode cL_law 11 = .ok (.dup, 1) := by decide +kernel
theorem dL_law_12 : decode cL_law 12 = .ok (.invokespecial 12, 3) := by decide +kernel
theorem dL_law_15 : decode cL_law 15 = .ok (.astore_n 2, 1) := by decide +kernel
theorem dL_law_16 : decode cL_law 16 = .ok (.iconst 0, 1) := by decide +kernel
theorem dL_law_17 : decode cL_law 17 = .ok (.istore_n 3, 1) := by decide +kernel
theorem dL_law_18 : decode cL_law 18 = .ok (.iload_n 3, 1) := by decide +kernel
theorem dL_law_19 : decode cL_law 19 = .ok (.aload_n 0, 1) := by decide +kernel
theorem dL_law_20 : decode cL_law 20 = .ok (.arraylength, 1) := by decide +kernel
theorem dL_law_21 : decode cL_law 21 = .ok (.iconst 4, 1) := by decide +kernel
theorem dL_law_22 : decode cL_law 22 = .ok (.isub, 1) := by decide +kernel
theorem dL_law_23 : decode cL_law 23 = .ok (.if_icmp .gt 814, 3) := by decide +kernel
theorem dL_law_26 : decode cL_law 26 = .ok (.aload_n 0, 1) := by decide +kernel
theorem dL_law_27 : decode cL_law 27 = .ok (.iload_n 3, 1) := by decide +kernel
theorem dL_law_28 : decode cL_law 28 = .ok (.iaload, 1) := by decide +kernel
theorem dL_law_29 : decode cL_law 29 = .ok (.bipush 31, 2) := by decide +kernel
theorem dL_law_31 : decode cL_law 31 = .ok (.iand, 1) := by decide +kernel
theorem dL_law_32 : decode cL_law 32 = .ok (.tableswitch 799 0 25 #[120, 143, 156, 169, 202, 235, 268, 301, 324, 347, 390, 403, 426, 469, 512, 535, 568, 611, 644, 657, 670, 683, 716, 739, 762, 785], 120) := by decide +kernel
theorem dL_law_152 : decode cL_law 152 = .ok (.aload_n 1, 1) := by decide +kernel
theorem dL_law_153 : decode cL_law 153 = .ok (.aload_n 0, 1) := by decide +kernel
theorem dL_law_154 : decode cL_law 154 = .ok (.iload_n 3, 1) := by decide +kernel
theorem dL_law_155 : decode cL_law 155 = .ok (.iconst 1, 1) := by decide +kernel
theorem dL_law_156 : decode cL_law 156 = .ok (.iadd, 1) := by decide +kernel
theorem dL_law_157 : decode cL_law 157 = .ok (.iaload, 1) := by decide +kernel
theorem dL_law_158 : decode cL_law 158 = .ok (.invokevirtual 13, 3) := by decide +kernel
theorem dL_law_161 : decode cL_law 161 = .ok (.aload_n 2, 1) := by decide +kernel
theorem dL_law_162 : decode cL_law 162 = .ok (.aload_n 0, 1) := by decide +kernel
theorem dL_law_163 : decode cL_law 163 = .ok (.iload_n 3, 1) := by decide +kernel
theorem dL_law_164 : decode cL_law 164 = .ok (.iconst 1, 1) := by decide +kernel
theorem dL_law_165 : decode cL_law 165 = .ok (.iadd, 1) := by decide +kernel
theorem dL_law_166 : decode cL_law 166 = .ok (.iaload, 1) := by decide +kernel
theorem dL_law_167 : decode cL_law 167 = .ok (.invokevirtual 17, 3) := by decide +kernel
theorem dL_law_170 : decode cL_law 170 = .ok (.if_icmp .eq 661, 3) := by decide +kernel
theorem dL_law_173 : decode cL_law 173 = .ok (.iconst 0, 1) := by decide +kernel
theorem dL_law_174 : decode cL_law 174 = .ok (.ireturn, 1) := by decide +kernel
theorem dL_law_175 : decode cL_law 175 = .ok (.aload_n 1, 1) := by decide +kernel
theorem dL_law_176 : decode cL_law 176 = .ok (.invokevirtual 18, 3) := by decide +kernel
theorem dL_law_179 : decode cL_law 179 = .ok (.aload_n 2, 1) := by decide +kernel
theorem dL_law_180 : decode cL_law 180 = .ok (.invokevirtual 22, 3) := by decide +kernel
theorem dL_law_183 : decode cL_law 183 = .ok (.if_icmp .eq 648, 3) := by decide +kernel
theorem dL_law_186 : decode cL_law 186 = .ok (.iconst 0, 1) := by decide +kernel
theorem dL_law_187 : decode cL_law 187 = .ok (.ireturn, 1) := by decide +kernel
theorem dL_law_188 : decode cL_law 188 = .ok (.aload_n 1, 1) := by decide +kernel
theorem dL_law_189 : decode cL_law 189 = .ok (.invokevirtual 23, 3) := by decide +kernel
theorem dL_law_192 : decode cL_law 192 = .ok (.aload_n 2, 1) := by decide +kernel
theorem dL_law_193 : decode cL_law 193 = .ok (.invokevirtual 26, 3) := by decide +kernel
theorem dL_law_196 : decode cL_law 196 = .ok (.if_icmp .eq 635, 3) := by decide +kernel
theorem dL_law_199 : decode cL_law 199 = .ok (.iconst 0, 1) := by decide +kernel
theorem dL_law_200 : decode cL_law 200 = .ok (.ireturn, 1) := by decide +kernel
theorem dL_law_201 : decode cL_law 201 = .ok (.aload_n 1, 1) := by decide +kernel
theorem dL_law_202 : decode cL_law 202 = .ok (.aload_n 0, 1) := by decide +kernel
theorem dL_law_203 : decode cL_law 203 = .ok (.iload_n 3, 1) := by decide +kernel
theorem dL_law_204 : decode cL_law 204 = .ok (.iconst 1, 1) := by decide +kernel
theorem dL_law_205 : decode cL_law 205 = .ok (.iadd, 1) := by decide +kernel
theorem dL_law_206 : decode cL_law 206 = .ok (.iaload, 1) := by decide +kernel
theorem dL_law_207 : decode cL_law 207 = .ok (.aload_n 0, 1) := by decide +kernel
theorem dL_law_208 : decode cL_law 208 = .ok (.iload_n 3, 1) := by decide +kernel
theorem dL_law_209 : decode cL_law 209 = .ok (.iconst 2, 1) := by decide +kernel
theorem dL_law_210 : decode cL_law 210 = .ok (.iadd, 1) := by decide +kernel
theorem dL_law_211 : decode cL_law 211 = .ok (.iaload, 1) := by decide +kernel
theorem dL_law_212 : decode cL_law 212 = .ok (.invokevirtual 27, 3) := by decide +kernel
theorem dL_law_215 : decode cL_law 215 = .ok (.aload_n 2, 1) := by decide +kernel
theorem dL_law_216 : decode cL_law 216 = .ok (.aload_n 0, 1) := by decide +kernel
theorem dL_law_217 : decode cL_law 217 = .ok (.iload_n 3, 1) := by decide +kernel
theorem dL_law_218 : decode cL_law 218 = .ok (.iconst 1, 1) := by decide +kernel
theorem dL_law_219 : decode cL_law 219 = .ok (.iadd, 1) := by decide +kernel
theorem dL_law_220 : decode cL_law 220 = .ok (.iaload, 1) := by decide +kernel
theorem dL_law_221 : decode cL_law 221 = .ok (.aload_n 0, 1) := by decide +kernel
theorem dL_law_222 : decode cL_law 222 = .ok (.iload_n 3, 1) := by decide +kernel
theorem dL_law_223 : decode cL_law 223 = .ok (.iconst 2, 1) := by decide +kernel
theorem dL_law_224 : decode cL_law 224 = .ok (.iadd, 1) := by decide +kernel
theorem dL_law_225 : decode cL_law 225 = .ok (.iaload, 1) := by decide +kernel
theorem dL_law_226 : decode cL_law 226 = .ok (.invokevirtual 31, 3) := by decide +kernel
theorem dL_law_229 : decode cL_law 229 = .ok (.if_icmp .eq 602, 3) := by decide +kernel
theorem dL_law_232 : decode cL_law 232 = .ok (.iconst 0, 1) := by decide +kernel
theorem dL_law_233 : decode cL_law 233 = .ok (.ireturn, 1) := by decide +kernel
theorem dL_law_234 : decode cL_law 234 = .ok (.aload_n 1, 1) := by decide +kernel
theorem dL_law_235 : decode cL_law 235 = .ok (.aload_n 0, 1) := by decide +kernel
theorem dL_law_236 : decode cL_law 236 = .ok (.iload_n 3, 1) := by decide +kernel
theorem dL_law_237 : decode cL_law 237 = .ok (.iconst 1, 1) := by decide +kernel
theorem dL_law_238 : decode cL_law 238 = .ok (.iadd, 1) := by decide +kernel
theorem dL_law_239 : decode cL_law 239 = .ok (.iaload, 1) := by decide +kernel
theorem dL_law_240 : decode cL_law 240 = .ok (.aload_n 0, 1) := by decide +kernel
theorem dL_law_241 : decode cL_law 241 = .ok (.iload_n 3, 1) := by decide +kernel
theorem dL_law_242 : decode cL_law 242 = .ok (.iconst 2, 1) := by decide +kernel
theorem dL_law_243 : decode cL_law 243 = .ok (.iadd, 1) := by decide +kernel
theorem dL_law_244 : decode cL_law 244 = .ok (.iaload, 1) := by decide +kernel
theorem dL_law_245 : decode cL_law 245 = .ok (.invokevirtual 32, 3) := by decide +kernel
theorem dL_law_248 : decode cL_law 248 = .ok (.aload_n 2, 1) := by decide +kernel
theorem dL_law_249 : decode cL_law 249 = .ok (.aload_n 0, 1) := by decide +kernel
theorem dL_law_250 : decode cL_law 250 = .ok (.iload_n 3, 1) := by decide +kernel
theorem dL_law_251 : decode cL_law 251 = .ok (.iconst 1, 1) := by decide +kernel
theorem dL_law_252 : decode cL_law 252 = .ok (.iadd, 1) := by decide +kernel
theorem dL_law_253 : decode cL_law 253 = .ok (.iaload, 1) := by decide +kernel
theorem dL_law_254 : decode cL_law 254 = .ok (.aload_n 0, 1) := by decide +kernel
theorem dL_law_255 : decode cL_law 255 = .ok (.iload_n 3, 1) := by decide +kernel
theorem dL_law_256 : decode cL_law 256 = .ok (.iconst 2, 1) := by decide +kernel
theorem dL_law_257 : decode cL_law 257 = .ok (.iadd, 1) := by decide +kernel
theorem dL_law_258 : decode cL_law 258 = .ok (.iaload, 1) := by decide +kernel
theorem dL_law_259 : decode cL_law 259 = .ok (.invokevirtual 35, 3) := by decide +kernel
theorem dL_law_262 : decode cL_law 262 = .ok (.if_icmp .eq 569, 3) := by decide +kernel
theorem dL_law_265 : decode cL_law 265 = .ok (.iconst 0, 1) := by decide +kernel
theorem dL_law_266 : decode cL_law 266 = .ok (.ireturn, 1) := by decide +kernel
theorem dL_law_267 : decode cL_law 267 = .ok (.aload_n 1, 1) := by decide +kernel
theorem dL_law_268 : decode cL_law 268 = .ok (.aload_n 0, 1) := by decide +kernel
theorem dL_law_269 : decode cL_law 269 = .ok (.iload_n 3, 1) := by decide +kernel
theorem dL_law_270 : decode cL_law 270 = .ok (.iconst 1, 1) := by decide +kernel
theorem dL_law_271 : decode cL_law 271 = .ok (.iadd, 1) := by decide +kernel
theorem dL_law_272 : decode cL_law 272 = .ok (.iaload, 1) := by decide +kernel
theorem dL_law_273 : decode cL_law 273 = .ok (.aload_n 0, 1) := by decide +kernel
theorem dL_law_274 : decode cL_law 274 = .ok (.iload_n 3, 1) := by decide +kernel
theorem dL_law_275 : decode cL_law 275 = .ok (.iconst 2, 1) := by decide +kernel
theorem dL_law_276 : decode cL_law 276 = .ok (.iadd, 1) := by decide +kernel
theorem dL_law_277 : decode cL_law 277 = .ok (.iaload, 1) := by decide +kernel
theorem dL_law_278 : decode cL_law 278 = .ok (.invokevirtual 36, 3) := by decide +kernel
theorem dL_law_281 : decode cL_law 281 = .ok (.aload_n 2, 1) := by decide +kernel
theorem dL_law_282 : decode cL_law 282 = .ok (.aload_n 0, 1) := by decide +kernel
theorem dL_law_283 : decode cL_law 283 = .ok (.iload_n 3, 1) := by decide +kernel
theorem dL_law_284 : decode cL_law 284 = .ok (.iconst 1, 1) := by decide +kernel
theorem dL_law_285 : decode cL_law 285 = .ok (.iadd, 1) := by decide +kernel
theorem dL_law_286 : decode cL_law 286 = .ok (.iaload, 1) := by decide +kernel
theorem dL_law_287 : decode cL_law 287 = .ok (.aload_n 0, 1) := by decide +kernel
theorem dL_law_288 : decode cL_law 288 = .ok (.iload_n 3, 1) := by decide +kernel
theorem dL_law_289 : decode cL_law 289 = .ok (.iconst 2, 1) := by decide +kernel
theorem dL_law_290 : decode cL_law 290 = .ok (.iadd, 1) := by decide +kernel
theorem dL_law_291 : decode cL_law 291 = .ok (.iaload, 1) := by decide +kernel
theorem dL_law_292 : decode cL_law 292 = .ok (.invokevirtual 39, 3) := by decide +kernel
theorem dL_law_295 : decode cL_law 295 = .ok (.if_icmp .eq 536, 3) := by decide +kernel
theorem dL_law_298 : decode cL_law 298 = .ok (.iconst 0, 1) := by decide +kernel
theorem dL_law_299 : decode cL_law 299 = .ok (.ireturn, 1) := by decide +kernel
theorem dL_law_300 : decode cL_law 300 = .ok (.aload_n 1, 1) := by decide +kernel
theorem dL_law_301 : decode cL_law 301 = .ok (.aload_n 0, 1) := by decide +kernel
theorem dL_law_302 : decode cL_law 302 = .ok (.iload_n 3, 1) := by decide +kernel
theorem dL_law_303 : decode cL_law 303 = .ok (.iconst 1, 1) := by decide +kernel
theorem dL_law_304 : decode cL_law 304 = .ok (.iadd, 1) := by decide +kernel
theorem dL_law_305 : decode cL_law 305 = .ok (.iaload, 1) := by decide +kernel
theorem dL_law_306 : decode cL_law 306 = .ok (.aload_n 0, 1) := by decide +kernel
theorem dL_law_307 : decode cL_law 307 = .ok (.iload_n 3, 1) := by decide +kernel
theorem dL_law_308 : decode cL_law 308 = .ok (.iconst 2, 1) := by decide +kernel
theorem dL_law_309 : decode cL_law 309 = .ok (.iadd, 1) := by decide +kernel
theorem dL_law_310 : decode cL_law 310 = .ok (.iaload, 1) := by decide +kernel
theorem dL_law_311 : decode cL_law 311 = .ok (.invokevirtual 40, 3) := by decide +kernel
theorem dL_law_314 : decode cL_law 314 = .ok (.aload_n 2, 1) := by decide +kernel
theorem dL_law_315 : decode cL_law 315 = .ok (.aload_n 0, 1) := by decide +kernel
theorem dL_law_316 : decode cL_law 316 = .ok (.iload_n 3, 1) := by decide +kernel
theorem dL_law_317 : decode cL_law 317 = .ok (.iconst 1, 1) := by decide +kernel
theorem dL_law_318 : decode cL_law 318 = .ok (.iadd, 1) := by decide +kernel
theorem dL_law_319 : decode cL_law 319 = .ok (.iaload, 1) := by decide +kernel
theorem dL_law_320 : decode cL_law 320 = .ok (.aload_n 0, 1) := by decide +kernel
theorem dL_law_321 : decode cL_law 321 = .ok (.iload_n 3, 1) := by decide +kernel
theorem dL_law_322 : decode cL_law 322 = .ok (.iconst 2, 1) := by decide +kernel
theorem dL_law_323 : decode cL_law 323 = .ok (.iadd, 1) := by decide +kernel
theorem dL_law_324 : decode cL_law 324 = .ok (.iaload, 1) := by decide +kernel
theorem dL_law_325 : decode cL_law 325 = .ok (.invokevirtual 43, 3) := by decide +kernel
theorem dL_law_328 : decode cL_law 328 = .ok (.if_icmp .eq 503, 3) := by decide +kernel
theorem dL_law_331 : decode cL_law 331 = .ok (.iconst 0, 1) := by decide +kernel
theorem dL_law_332 : decode cL_law 332 = .ok (.ireturn, 1) := by decide +kernel
theorem dL_law_333 : decode cL_law 333 = .ok (.aload_n 1, 1) := by decide +kernel
theorem dL_law_334 : decode cL_law 334 = .ok (.aload_n 0, 1) := by decide +kernel
theorem dL_law_335 : decode cL_law 335 = .ok (.iload_n 3, 1) := by decide +kernel
theorem dL_law_336 : decode cL_law 336 = .ok (.iconst 1, 1) := by decide +kernel
theorem dL_law_337 : decode cL_law 337 = .ok (.iadd, 1) := by decide +kernel
theorem dL_law_338 : decode cL_law 338 = .ok (.iaload, 1) := by decide +kernel
theorem dL_law_339 : decode cL_law 339 = .ok (.invokevirtual 44, 3) := by decide +kernel
theorem dL_law_342 : decode cL_law 342 = .ok (.aload_n 2, 1) := by decide +kernel
theorem dL_law_343 : decode cL_law 343 = .ok (.aload_n 0, 1) := by decide +kernel
theorem dL_law_344 : decode cL_law 344 = .ok (.iload_n 3, 1) := by decide +kernel
theorem dL_law_345 : decode cL_law 345 = .ok (.iconst 1, 1) := by decide +kernel
theorem dL_law_346 : decode cL_law 346 = .ok (.iadd, 1) := by decide +kernel
theorem dL_law_347 : decode cL_law 347 = .ok (.iaload, 1) := by decide +kernel
theorem dL_law_348 : decode cL_law 348 = .ok (.invokevirtual 47, 3) := by decide +kernel
theorem dL_law_351 : decode cL_law 351 = .ok (.if_icmp .eq 480, 3) := by decide +kernel
theorem dL_law_354 : decode cL_law 354 = .ok (.iconst 0, 1) := by decide +kernel
theorem dL_law_355 : decode cL_law 355 = .ok (.ireturn, 1) := by decide +kernel
theorem dL_law_356 : decode cL_law 356 = .ok (.aload_n 1, 1) := by decide +kernel
theorem dL_law_357 : decode cL_law 357 = .ok (.aload_n 0, 1) := by decide +kernel
theorem dL_law_358 : decode cL_law 358 = .ok (.iload_n 3, 1) := by decide +kernel
theorem dL_law_359 : decode cL_law 359 = .ok (.iconst 1, 1) := by decide +kernel
theorem dL_law_360 : decode cL_law 360 = .ok (.iadd, 1) := by decide +kernel
theorem dL_law_361 : decode cL_law 361 = .ok (.iaload, 1) := by decide +kernel
theorem dL_law_362 : decode cL_law 362 = .ok (.invokevirtual 48, 3) := by decide +kernel
theorem dL_law_365 : decode cL_law 365 = .ok (.aload_n 2, 1) := by decide +kernel
theorem dL_law_366 : decode cL_law 366 = .ok (.aload_n 0, 1) := by decide +kernel
theorem dL_law_367 : decode cL_law 367 = .ok (.iload_n 3, 1) := by decide +kernel
theorem dL_law_368 : decode cL_law 368 = .ok (.iconst 1, 1) := by decide +kernel
theorem dL_law_369 : decode cL_law 369 = .ok (.iadd, 1) := by decide +kernel
theorem dL_law_370 : decode cL_law 370 = .ok (.iaload, 1) := by decide +kernel
theorem dL_law_371 : decode cL_law 371 = .ok (.invokevirtual 51, 3) := by decide +kernel
theorem dL_law_374 : decode cL_law 374 = .ok (.if_icmp .eq 457, 3) := by decide +kernel
theorem dL_law_377 : decode cL_law 377 = .ok (.iconst 0, 1) := by decide +kernel
theorem dL_law_378 : decode cL_law 378 = .ok (.ireturn, 1) := by decide +kernel
theorem dL_law_379 : decode cL_law 379 = .ok (.aload_n 1, 1) := by decide +kernel
theorem dL_law_380 : decode cL_law 380 = .ok (.aload_n 0, 1) := by decide +kernel
theorem dL_law_381 : decode cL_law 381 = .ok (.iload_n 3, 1) := by decide +kernel
theorem dL_law_382 : decode cL_law 382 = .ok (.iconst 1, 1) := by decide +kernel
theorem dL_law_383 : decode cL_law 383 = .ok (.iadd, 1) := by decide +kernel
theorem dL_law_384 : decode cL_law 384 = .ok (.iaload, 1) := by decide +kernel
theorem dL_law_385 : decode cL_law 385 = .ok (.aload_n 0, 1) := by decide +kernel
theorem dL_law_386 : decode cL_law 386 = .ok (.iload_n 3, 1) := by decide +kernel
theorem dL_law_387 : decode cL_law 387 = .ok (.iconst 2, 1) := by decide +kernel
theorem dL_law_388 : decode cL_law 388 = .ok (.iadd, 1) := by decide +kernel
theorem dL_law_389 : decode cL_law 389 = .ok (.iaload, 1) := by decide +kernel
theorem dL_law_390 : decode cL_law 390 = .ok (.aload_n 0, 1) := by decide +kernel
theorem dL_law_391 : decode cL_law 391 = .ok (.iload_n 3, 1) := by decide +kernel
theorem dL_law_392 : decode cL_law 392 = .ok (.iconst 3, 1) := by decide +kernel
theorem dL_law_393 : decode cL_law 393 = .ok (.iadd, 1) := by decide +kernel
theorem dL_law_394 : decode cL_law 394 = .ok (.iaload, 1) := by decide +kernel
theorem dL_law_395 : decode cL_law 395 = .ok (.invokevirtual 52, 3) := by decide +kernel
theorem dL_law_398 : decode cL_law 398 = .ok (.aload_n 2, 1) := by decide +kernel
theorem dL_law_399 : decode cL_law 399 = .ok (.aload_n 0, 1) := by decide +kernel
theorem dL_law_400 : decode cL_law 400 = .ok (.iload_n 3, 1) := by decide +kernel
theorem dL_law_401 : decode cL_law 401 = .ok (.iconst 1, 1) := by decide +kernel
theorem dL_law_402 : decode cL_law 402 = .ok (.iadd, 1) := by decide +kernel
theorem dL_law_403 : decode cL_law 403 = .ok (.iaload, 1) := by decide +kernel
theorem dL_law_404 : decode cL_law 404 = .ok (.aload_n 0, 1) := by decide +kernel
theorem dL_law_405 : decode cL_law 405 = .ok (.iload_n 3, 1) := by decide +kernel
theorem dL_law_406 : decode cL_law 406 = .ok (.iconst 2, 1) := by decide +kernel
theorem dL_law_407 : decode cL_law 407 = .ok (.iadd, 1) := by decide +kernel
theorem dL_law_408 : decode cL_law 408 = .ok (.iaload, 1) := by decide +kernel
theorem dL_law_409 : decode cL_law 409 = .ok (.aload_n 0, 1) := by decide +kernel
theorem dL_law_410 : decode cL_law 410 = .ok (.iload_n 3, 1) := by decide +kernel
theorem dL_law_411 : decode cL_law 411 = .ok (.iconst 3, 1) := by decide +kernel
theorem dL_law_412 : decode cL_law 412 = .ok (.iadd, 1) := by decide +kernel
theorem dL_law_413 : decode cL_law 413 = .ok (.iaload, 1) := by decide +kernel
theorem dL_law_414 : decode cL_law 414 = .ok (.invokevirtual 56, 3) := by decide +kernel
theorem dL_law_417 : decode cL_law 417 = .ok (.if_icmp .eq 414, 3) := by decide +kernel
theorem dL_law_420 : decode cL_law 420 = .ok (.iconst 0, 1) := by decide +kernel
theorem dL_law_421 : decode cL_law 421 = .ok (.ireturn, 1) := by decide +kernel
theorem dL_law_422 : decode cL_law 422 = .ok (.aload_n 1, 1) := by decide +kernel
theorem dL_law_423 : decode cL_law 423 = .ok (.invokevirtual 57, 3) := by decide +kernel
theorem dL_law_426 : decode cL_law 426 = .ok (.aload_n 2, 1) := by decide +kernel
theorem dL_law_427 : decode cL_law 427 = .ok (.invokevirtual 60, 3) := by decide +kernel
theorem dL_law_430 : decode cL_law 430 = .ok (.if_icmp .eq 401, 3) := by decide +kernel
theorem dL_law_433 : decode cL_law 433 = .ok (.iconst 0, 1) := by decide +kernel
theorem dL_law_434 : decode cL_law 434 = .ok (.ireturn, 1) := by decide +kernel
theorem dL_law_435 : decode cL_law 435 = .ok (.aload_n 1, 1) := by decide +kernel
theorem dL_law_436 : decode cL_law 436 = .ok (.aload_n 0, 1) := by decide +kernel
theorem dL_law_437 : decode cL_law 437 = .ok (.iload_n 3, 1) := by decide +kernel
theorem dL_law_438 : decode cL_law 438 = .ok (.iconst 1, 1) := by decide +kernel
theorem dL_law_439 : decode cL_law 439 = .ok (.iadd, 1) := by decide +kernel
theorem dL_law_440 : decode cL_law 440 = .ok (.iaload, 1) := by decide +kernel
theorem dL_law_441 : decode cL_law 441 = .ok (.invokevirtual 61, 3) := by decide +kernel
theorem dL_law_444 : decode cL_law 444 = .ok (.aload_n 2, 1) := by decide +kernel
theorem dL_law_445 : decode cL_law 445 = .ok (.aload_n 0, 1) := by decide +kernel
theorem dL_law_446 : decode cL_law 446 = .ok (.iload_n 3, 1) := by decide +kernel
theorem dL_law_447 : decode cL_law 447 = .ok (.iconst 1, 1) := by decide +kernel
theorem dL_law_448 : decode cL_law 448 = .ok (.iadd, 1) := by decide +kernel
theorem dL_law_449 : decode cL_law 449 = .ok (.iaload, 1) := by decide +kernel
theorem dL_law_450 : decode cL_law 450 = .ok (.invokevirtual 64, 3) := by decide +kernel
theorem dL_law_453 : decode cL_law 453 = .ok (.if_icmp .eq 378, 3) := by decide +kernel
theorem dL_law_456 : decode cL_law 456 = .ok (.iconst 0, 1) := by decide +kernel
theorem dL_law_457 : decode cL_law 457 = .ok (.ireturn, 1) := by decide +kernel
theorem dL_law_458 : decode cL_law 458 = .ok (.aload_n 1, 1) := by decide +kernel
theorem dL_law_459 : decode cL_law 459 = .ok (.aload_n 0, 1) := by decide +kernel
theorem dL_law_460 : decode cL_law 460 = .ok (.iload_n 3, 1) := by decide +kernel
theorem dL_law_461 : decode cL_law 461 = .ok (.iconst 1, 1) := by decide +kernel
theorem dL_law_462 : decode cL_law 462 = .ok (.iadd, 1) := by decide +kernel
theorem dL_law_463 : decode cL_law 463 = .ok (.iaload, 1) := by decide +kernel
theorem dL_law_464 : decode cL_law 464 = .ok (.aload_n 0, 1) := by decide +kernel
theorem dL_law_465 : decode cL_law 465 = .ok (.iload_n 3, 1) := by decide +kernel
theorem dL_law_466 : decode cL_law 466 = .ok (.iconst 2, 1) := by decide +kernel
theorem dL_law_467 : decode cL_law 467 = .ok (.iadd, 1) := by decide +kernel
theorem dL_law_468 : decode cL_law 468 = .ok (.iaload, 1) := by decide +kernel
theorem dL_law_469 : decode cL_law 469 = .ok (.aload_n 0, 1) := by decide +kernel
theorem dL_law_470 : decode cL_law 470 = .ok (.iload_n 3, 1) := by decide +kernel
theorem dL_law_471 : decode cL_law 471 = .ok (.iconst 3, 1) := by decide +kernel
theorem dL_law_472 : decode cL_law 472 = .ok (.iadd, 1) := by decide +kernel
theorem dL_law_473 : decode cL_law 473 = .ok (.iaload, 1) := by decide +kernel
theorem dL_law_474 : decode cL_law 474 = .ok (.invokevirtual 65, 3) := by decide +kernel
theorem dL_law_477 : decode cL_law 477 = .ok (.aload_n 2, 1) := by decide +kernel
theorem dL_law_478 : decode cL_law 478 = .ok (.aload_n 0, 1) := by decide +kernel
theorem dL_law_479 : decode cL_law 479 = .ok (.iload_n 3, 1) := by decide +kernel
theorem dL_law_480 : decode cL_law 480 = .ok (.iconst 1, 1) := by decide +kernel
theorem dL_law_481 : decode cL_law 481 = .ok (.iadd, 1) := by decide +kernel
theorem dL_law_482 : decode cL_law 482 = .ok (.iaload, 1) := by decide +kernel
theorem dL_law_483 : decode cL_law 483 = .ok (.aload_n 0, 1) := by decide +kernel
theorem dL_law_484 : decode cL_law 484 = .ok (.iload_n 3, 1) := by decide +kernel
theorem dL_law_485 : decode cL_law 485 = .ok (.iconst 2, 1) := by decide +kernel
theorem dL_law_486 : decode cL_law 486 = .ok (.iadd, 1) := by decide +kernel
theorem dL_law_487 : decode cL_law 487 = .ok (.iaload, 1) := by decide +kernel
theorem dL_law_488 : decode cL_law 488 = .ok (.aload_n 0, 1) := by decide +kernel
theorem dL_law_489 : decode cL_law 489 = .ok (.iload_n 3, 1) := by decide +kernel
theorem dL_law_490 : decode cL_law 490 = .ok (.iconst 3, 1) := by decide +kernel
theorem dL_law_491 : decode cL_law 491 = .ok (.iadd, 1) := by decide +kernel
theorem dL_law_492 : decode cL_law 492 = .ok (.iaload, 1) := by decide +kernel
theorem dL_law_493 : decode cL_law 493 = .ok (.invokevirtual 68, 3) := by decide +kernel
theorem dL_law_496 : decode cL_law 496 = .ok (.if_icmp .eq 335, 3) := by decide +kernel
theorem dL_law_499 : decode cL_law 499 = .ok (.iconst 0, 1) := by decide +kernel
theorem dL_law_500 : decode cL_law 500 = .ok (.ireturn, 1) := by decide +kernel
theorem dL_law_501 : decode cL_law 501 = .ok (.aload_n 1, 1) := by decide +kernel
theorem dL_law_502 : decode cL_law 502 = .ok (.aload_n 0, 1) := by decide +kernel
theorem dL_law_503 : decode cL_law 503 = .ok (.iload_n 3, 1) := by decide +kernel
theorem dL_law_504 : decode cL_law 504 = .ok (.iconst 1, 1) := by decide +kernel
theorem dL_law_505 : decode cL_law 505 = .ok (.iadd, 1) := by decide +kernel
theorem dL_law_506 : decode cL_law 506 = .ok (.iaload, 1) := by decide +kernel
theorem dL_law_507 : decode cL_law 507 = .ok (.aload_n 0, 1) := by decide +kernel
theorem dL_law_508 : decode cL_law 508 = .ok (.iload_n 3, 1) := by decide +kernel
theorem dL_law_509 : decode cL_law 509 = .ok (.iconst 2, 1) := by decide +kernel
theorem dL_law_510 : decode cL_law 510 = .ok (.iadd, 1) := by decide +kernel
theorem dL_law_511 : decode cL_law 511 = .ok (.iaload, 1) := by decide +kernel
theorem dL_law_512 : decode cL_law 512 = .ok (.aload_n 0, 1) := by decide +kernel
theorem dL_law_513 : decode cL_law 513 = .ok (.iload_n 3, 1) := by decide +kernel
theorem dL_law_514 : decode cL_law 514 = .ok (.iconst 3, 1) := by decide +kernel
theorem dL_law_515 : decode cL_law 515 = .ok (.iadd, 1) := by decide +kernel
theorem dL_law_516 : decode cL_law 516 = .ok (.iaload, 1) := by decide +kernel
theorem dL_law_517 : decode cL_law 517 = .ok (.invokevirtual 69, 3) := by decide +kernel
theorem dL_law_520 : decode cL_law 520 = .ok (.aload_n 2, 1) := by decide +kernel
theorem dL_law_521 : decode cL_law 521 = .ok (.aload_n 0, 1) := by decide +kernel
theorem dL_law_522 : decode cL_law 522 = .ok (.iload_n 3, 1) := by decide +kernel
theorem dL_law_523 : decode cL_law 523 = .ok (.iconst 1, 1) := by decide +kernel
theorem dL_law_524 : decode cL_law 524 = .ok (.iadd, 1) := by decide +kernel
theorem dL_law_525 : decode cL_law 525 = .ok (.iaload, 1) := by decide +kernel
theorem dL_law_526 : decode cL_law 526 = .ok (.aload_n 0, 1) := by decide +kernel
theorem dL_law_527 : decode cL_law 527 = .ok (.iload_n 3, 1) := by decide +kernel
theorem dL_law_528 : decode cL_law 528 = .ok (.iconst 2, 1) := by decide +kernel
theorem dL_law_529 : decode cL_law 529 = .ok (.iadd, 1) := by decide +kernel
theorem dL_law_530 : decode cL_law 530 = .ok (.iaload, 1) := by decide +kernel
theorem dL_law_531 : decode cL_law 531 = .ok (.aload_n 0, 1) := by decide +kernel
theorem dL_law_532 : decode cL_law 532 = .ok (.iload_n 3, 1) := by decide +kernel
theorem dL_law_533 : decode cL_law 533 = .ok (.iconst 3, 1) := by decide +kernel
theorem dL_law_534 : decode cL_law 534 = .ok (.iadd, 1) := by decide +kernel
theorem dL_law_535 : decode cL_law 535 = .ok (.iaload, 1) := by decide +kernel
theorem dL_law_536 : decode cL_law 536 = .ok (.invokevirtual 72, 3) := by decide +kernel
theorem dL_law_539 : decode cL_law 539 = .ok (.if_icmp .eq 292, 3) := by decide +kernel
theorem dL_law_542 : decode cL_law 542 = .ok (.iconst 0, 1) := by decide +kernel
theorem dL_law_543 : decode cL_law 543 = .ok (.ireturn, 1) := by decide +kernel
theorem dL_law_544 : decode cL_law 544 = .ok (.aload_n 1, 1) := by decide +kernel
theorem dL_law_545 : decode cL_law 545 = .ok (.aload_n 0, 1) := by decide +kernel
theorem dL_law_546 : decode cL_law 546 = .ok (.iload_n 3, 1) := by decide +kernel
theorem dL_law_547 : decode cL_law 547 = .ok (.iconst 1, 1) := by decide +kernel
theorem dL_law_548 : decode cL_law 548 = .ok (.iadd, 1) := by decide +kernel
theorem dL_law_549 : decode cL_law 549 = .ok (.iaload, 1) := by decide +kernel
theorem dL_law_550 : decode cL_law 550 = .ok (.invokevirtual 73, 3) := by decide +kernel
theorem dL_law_553 : decode cL_law 553 = .ok (.aload_n 2, 1) := by decide +kernel
theorem dL_law_554 : decode cL_law 554 = .ok (.aload_n 0, 1) := by decide +kernel
theorem dL_law_555 : decode cL_law 555 = .ok (.iload_n 3, 1) := by decide +kernel
theorem dL_law_556 : decode cL_law 556 = .ok (.iconst 1, 1) := by decide +kernel
theorem dL_law_557 : decode cL_law 557 = .ok (.iadd, 1) := by decide +kernel
theorem dL_law_558 : decode cL_law 558 = .ok (.iaload, 1) := by decide +kernel
theorem dL_law_559 : decode cL_law 559 = .ok (.invokevirtual 76, 3) := by decide +kernel
theorem dL_law_562 : decode cL_law 562 = .ok (.if_icmp .eq 269, 3) := by decide +kernel
theorem dL_law_565 : decode cL_law 565 = .ok (.iconst 0, 1) := by decide +kernel
theorem dL_law_566 : decode cL_law 566 = .ok (.ireturn, 1) := by decide +kernel
theorem dL_law_567 : decode cL_law 567 = .ok (.aload_n 1, 1) := by decide +kernel
theorem dL_law_568 : decode cL_law 568 = .ok (.aload_n 0, 1) := by decide +kernel
theorem dL_law_569 : decode cL_law 569 = .ok (.iload_n 3, 1) := by decide +kernel
theorem dL_law_570 : decode cL_law 570 = .ok (.iconst 1, 1) := by decide +kernel
theorem dL_law_571 : decode cL_law 571 = .ok (.iadd, 1) := by decide +kernel
theorem dL_law_572 : decode cL_law 572 = .ok (.iaload, 1) := by decide +kernel
theorem dL_law_573 : decode cL_law 573 = .ok (.aload_n 0, 1) := by decide +kernel
theorem dL_law_574 : decode cL_law 574 = .ok (.iload_n 3, 1) := by decide +kernel
theorem dL_law_575 : decode cL_law 575 = .ok (.iconst 2, 1) := by decide +kernel
theorem dL_law_576 : decode cL_law 576 = .ok (.iadd, 1) := by decide +kernel
theorem dL_law_577 : decode cL_law 577 = .ok (.iaload, 1) := by decide +kernel
theorem dL_law_578 : decode cL_law 578 = .ok (.invokevirtual 77, 3) := by decide +kernel
theorem dL_law_581 : decode cL_law 581 = .ok (.aload_n 2, 1) := by decide +kernel
theorem dL_law_582 : decode cL_law 582 = .ok (.aload_n 0, 1) := by decide +kernel
theorem dL_law_583 : decode cL_law 583 = .ok (.iload_n 3, 1) := by decide +kernel
theorem dL_law_584 : decode cL_law 584 = .ok (.iconst 1, 1) := by decide +kernel
theorem dL_law_585 : decode cL_law 585 = .ok (.iadd, 1) := by decide +kernel
theorem dL_law_586 : decode cL_law 586 = .ok (.iaload, 1) := by decide +kernel
theorem dL_law_587 : decode cL_law 587 = .ok (.aload_n 0, 1) := by decide +kernel
theorem dL_law_588 : decode cL_law 588 = .ok (.iload_n 3, 1) := by decide +kernel
theorem dL_law_589 : decode cL_law 589 = .ok (.iconst 2, 1) := by decide +kernel
theorem dL_law_590 : decode cL_law 590 = .ok (.iadd, 1) := by decide +kernel
theorem dL_law_591 : decode cL_law 591 = .ok (.iaload, 1) := by decide +kernel
theorem dL_law_592 : decode cL_law 592 = .ok (.invokevirtual 80, 3) := by decide +kernel
theorem dL_law_595 : decode cL_law 595 = .ok (.if_icmp .eq 236, 3) := by decide +kernel
theorem dL_law_598 : decode cL_law 598 = .ok (.iconst 0, 1) := by decide +kernel
theorem dL_law_599 : decode cL_law 599 = .ok (.ireturn, 1) := by decide +kernel
theorem dL_law_600 : decode cL_law 600 = .ok (.aload_n 1, 1) := by decide +kernel
theorem dL_law_601 : decode cL_law 601 = .ok (.aload_n 0, 1) := by decide +kernel
theorem dL_law_602 : decode cL_law 602 = .ok (.iload_n 3, 1) := by decide +kernel
theorem dL_law_603 : decode cL_law 603 = .ok (.iconst 1, 1) := by decide +kernel
theorem dL_law_604 : decode cL_law 604 = .ok (.iadd, 1) := by decide +kernel
theorem dL_law_605 : decode cL_law 605 = .ok (.iaload, 1) := by decide +kernel
theorem dL_law_606 : decode cL_law 606 = .ok (.aload_n 0, 1) := by decide +kernel
theorem dL_law_607 : decode cL_law 607 = .ok (.iload_n 3, 1) := by decide +kernel
theorem dL_law_608 : decode cL_law 608 = .ok (.iconst 2, 1) := by decide +kernel
theorem dL_law_609 : decode cL_law 609 = .ok (.iadd, 1) := by decide +kernel
theorem dL_law_610 : decode cL_law 610 = .ok (.iaload, 1) := by decide +kernel
theorem dL_law_611 : decode cL_law 611 = .ok (.aload_n 0, 1) := by decide +kernel
theorem dL_law_612 : decode cL_law 612 = .ok (.iload_n 3, 1) := by decide +kernel
theorem dL_law_613 : decode cL_law 613 = .ok (.iconst 3, 1) := by decide +kernel
theorem dL_law_614 : decode cL_law 614 = .ok (.iadd, 1) := by decide +kernel
theorem dL_law_615 : decode cL_law 615 = .ok (.iaload, 1) := by decide +kernel
theorem dL_law_616 : decode cL_law 616 = .ok (.invokevirtual 81, 3) := by decide +kernel
theorem dL_law_619 : decode cL_law 619 = .ok (.aload_n 2, 1) := by decide +kernel
theorem dL_law_620 : decode cL_law 620 = .ok (.aload_n 0, 1) := by decide +kernel
theorem dL_law_621 : decode cL_law 621 = .ok (.iload_n 3, 1) := by decide +kernel
theorem dL_law_622 : decode cL_law 622 = .ok (.iconst 1, 1) := by decide +kernel
theorem dL_law_623 : decode cL_law 623 = .ok (.iadd, 1) := by decide +kernel
theorem dL_law_624 : decode cL_law 624 = .ok (.iaload, 1) := by decide +kernel
theorem dL_law_625 : decode cL_law 625 = .ok (.aload_n 0, 1) := by decide +kernel
theorem dL_law_626 : decode cL_law 626 = .ok (.iload_n 3, 1) := by decide +kernel
theorem dL_law_627 : decode cL_law 627 = .ok (.iconst 2, 1) := by decide +kernel
theorem dL_law_628 : decode cL_law 628 = .ok (.iadd, 1) := by decide +kernel
theorem dL_law_629 : decode cL_law 629 = .ok (.iaload, 1) := by decide +kernel
theorem dL_law_630 : decode cL_law 630 = .ok (.aload_n 0, 1) := by decide +kernel
theorem dL_law_631 : decode cL_law 631 = .ok (.iload_n 3, 1) := by decide +kernel
theorem dL_law_632 : decode cL_law 632 = .ok (.iconst 3, 1) := by decide +kernel
theorem dL_law_633 : decode cL_law 633 = .ok (.iadd, 1) := by decide +kernel
theorem dL_law_634 : decode cL_law 634 = .ok (.iaload, 1) := by decide +kernel
theorem dL_law_635 : decode cL_law 635 = .ok (.invokevirtual 84, 3) := by decide +kernel
theorem dL_law_638 : decode cL_law 638 = .ok (.if_icmp .eq 193, 3) := by decide +kernel
theorem dL_law_641 : decode cL_law 641 = .ok (.iconst 0, 1) := by decide +kernel
theorem dL_law_642 : decode cL_law 642 = .ok (.ireturn, 1) := by decide +kernel
theorem dL_law_643 : decode cL_law 643 = .ok (.aload_n 1, 1) := by decide +kernel
theorem dL_law_644 : decode cL_law 644 = .ok (.aload_n 0, 1) := by decide +kernel
theorem dL_law_645 : decode cL_law 645 = .ok (.iload_n 3, 1) := by decide +kernel
theorem dL_law_646 : decode cL_law 646 = .ok (.iconst 1, 1) := by decide +kernel
theorem dL_law_647 : decode cL_law 647 = .ok (.iadd, 1) := by decide +kernel
theorem dL_law_648 : decode cL_law 648 = .ok (.iaload, 1) := by decide +kernel
theorem dL_law_649 : decode cL_law 649 = .ok (.aload_n 0, 1) := by decide +kernel
theorem dL_law_650 : decode cL_law 650 = .ok (.iload_n 3, 1) := by decide +kernel
theorem dL_law_651 : decode cL_law 651 = .ok (.iconst 2, 1) := by decide +kernel
theorem dL_law_652 : decode cL_law 652 = .ok (.iadd, 1) := by decide +kernel
theorem dL_law_653 : decode cL_law 653 = .ok (.iaload, 1) := by decide +kernel
theorem dL_law_654 : decode cL_law 654 = .ok (.invokevirtual 85, 3) := by decide +kernel
theorem dL_law_657 : decode cL_law 657 = .ok (.aload_n 2, 1) := by decide +kernel
theorem dL_law_658 : decode cL_law 658 = .ok (.aload_n 0, 1) := by decide +kernel
theorem dL_law_659 : decode cL_law 659 = .ok (.iload_n 3, 1) := by decide +kernel
theorem dL_law_660 : decode cL_law 660 = .ok (.iconst 1, 1) := by decide +kernel
theorem dL_law_661 : decode cL_law 661 = .ok (.iadd, 1) := by decide +kernel
theorem dL_law_662 : decode cL_law 662 = .ok (.iaload, 1) := by decide +kernel
theorem dL_law_663 : decode cL_law 663 = .ok (.aload_n 0, 1) := by decide +kernel
theorem dL_law_664 : decode cL_law 664 = .ok (.iload_n 3, 1) := by decide +kernel
theorem dL_law_665 : decode cL_law 665 = .ok (.iconst 2, 1) := by decide +kernel
theorem dL_law_666 : decode cL_law 666 = .ok (.iadd, 1) := by decide +kernel
theorem dL_law_667 : decode cL_law 667 = .ok (.iaload, 1) := by decide +kernel
theorem dL_law_668 : decode cL_law 668 = .ok (.invokevirtual 88, 3) := by decide +kernel
theorem dL_law_671 : decode cL_law 671 = .ok (.if_icmp .eq 160, 3) := by decide +kernel
theorem dL_law_674 : decode cL_law 674 = .ok (.iconst 0, 1) := by decide +kernel
theorem dL_law_675 : decode cL_law 675 = .ok (.ireturn, 1) := by decide +kernel
theorem dL_law_676 : decode cL_law 676 = .ok (.aload_n 1, 1) := by decide +kernel
theorem dL_law_677 : decode cL_law 677 = .ok (.invokevirtual 89, 3) := by decide +kernel
theorem dL_law_680 : decode cL_law 680 = .ok (.aload_n 2, 1) := by decide +kernel
theorem dL_law_681 : decode cL_law 681 = .ok (.invokevirtual 92, 3) := by decide +kernel
theorem dL_law_684 : decode cL_law 684 = .ok (.if_icmp .eq 147, 3) := by decide +kernel
theorem dL_law_687 : decode cL_law 687 = .ok (.iconst 0, 1) := by decide +kernel
theorem dL_law_688 : decode cL_law 688 = .ok (.ireturn, 1) := by decide +kernel
theorem dL_law_689 : decode cL_law 689 = .ok (.aload_n 1, 1) := by decide +kernel
theorem dL_law_690 : decode cL_law 690 = .ok (.invokevirtual 93, 3) := by decide +kernel
theorem dL_law_693 : decode cL_law 693 = .ok (.aload_n 2, 1) := by decide +kernel
theorem dL_law_694 : decode cL_law 694 = .ok (.invokevirtual 96, 3) := by decide +kernel
theorem dL_law_697 : decode cL_law 697 = .ok (.if_icmp .eq 134, 3) := by decide +kernel
theorem dL_law_700 : decode cL_law 700 = .ok (.iconst 0, 1) := by decide +kernel
theorem dL_law_701 : decode cL_law 701 = .ok (.ireturn, 1) := by decide +kernel
theorem dL_law_702 : decode cL_law 702 = .ok (.aload_n 1, 1) := by decide +kernel
theorem dL_law_703 : decode cL_law 703 = .ok (.invokevirtual 97, 3) := by decide +kernel
theorem dL_law_706 : decode cL_law 706 = .ok (.aload_n 2, 1) := by decide +kernel
theorem dL_law_707 : decode cL_law 707 = .ok (.invokevirtual 100, 3) := by decide +kernel
theorem dL_law_710 : decode cL_law 710 = .ok (.if_icmp .eq 121, 3) := by decide +kernel
theorem dL_law_713 : decode cL_law 713 = .ok (.iconst 0, 1) := by decide +kernel
theorem dL_law_714 : decode cL_law 714 = .ok (.ireturn, 1) := by decide +kernel
theorem dL_law_715 : decode cL_law 715 = .ok (.aload_n 1, 1) := by decide +kernel
theorem dL_law_716 : decode cL_law 716 = .ok (.aload_n 0, 1) := by decide +kernel
theorem dL_law_717 : decode cL_law 717 = .ok (.iload_n 3, 1) := by decide +kernel
theorem dL_law_718 : decode cL_law 718 = .ok (.iconst 1, 1) := by decide +kernel
theorem dL_law_719 : decode cL_law 719 = .ok (.iadd, 1) := by decide +kernel
theorem dL_law_720 : decode cL_law 720 = .ok (.iaload, 1) := by decide +kernel
theorem dL_law_721 : decode cL_law 721 = .ok (.aload_n 0, 1) := by decide +kernel
theorem dL_law_722 : decode cL_law 722 = .ok (.iload_n 3, 1) := by decide +kernel
theorem dL_law_723 : decode cL_law 723 = .ok (.iconst 2, 1) := by decide +kernel
theorem dL_law_724 : decode cL_law 724 = .ok (.iadd, 1) := by decide +kernel
theorem dL_law_725 : decode cL_law 725 = .ok (.iaload, 1) := by decide +kernel
theorem dL_law_726 : decode cL_law 726 = .ok (.invokevirtual 101, 3) := by decide +kernel
theorem dL_law_729 : decode cL_law 729 = .ok (.aload_n 2, 1) := by decide +kernel
theorem dL_law_730 : decode cL_law 730 = .ok (.aload_n 0, 1) := by decide +kernel
theorem dL_law_731 : decode cL_law 731 = .ok (.iload_n 3, 1) := by decide +kernel
theorem dL_law_732 : decode cL_law 732 = .ok (.iconst 1, 1) := by decide +kernel
theorem dL_law_733 : decode cL_law 733 = .ok (.iadd, 1) := by decide +kernel
theorem dL_law_734 : decode cL_law 734 = .ok (.iaload, 1) := by decide +kernel
theorem dL_law_735 : decode cL_law 735 = .ok (.aload_n 0, 1) := by decide +kernel
theorem dL_law_736 : decode cL_law 736 = .ok (.iload_n 3, 1) := by decide +kernel
theorem dL_law_737 : decode cL_law 737 = .ok (.iconst 2, 1) := by decide +kernel
theorem dL_law_738 : decode cL_law 738 = .ok (.iadd, 1) := by decide +kernel
theorem dL_law_739 : decode cL_law 739 = .ok (.iaload, 1) := by decide +kernel
theorem dL_law_740 : decode cL_law 740 = .ok (.invokevirtual 104, 3) := by decide +kernel
theorem dL_law_743 : decode cL_law 743 = .ok (.if_icmp .eq 88, 3) := by decide +kernel
theorem dL_law_746 : decode cL_law 746 = .ok (.iconst 0, 1) := by decide +kernel
theorem dL_law_747 : decode cL_law 747 = .ok (.ireturn, 1) := by decide +kernel
theorem dL_law_748 : decode cL_law 748 = .ok (.aload_n 1, 1) := by decide +kernel
theorem dL_law_749 : decode cL_law 749 = .ok (.aload_n 0, 1) := by decide +kernel
theorem dL_law_750 : decode cL_law 750 = .ok (.iload_n 3, 1) := by decide +kernel
theorem dL_law_751 : decode cL_law 751 = .ok (.iconst 1, 1) := by decide +kernel
theorem dL_law_752 : decode cL_law 752 = .ok (.iadd, 1) := by decide +kernel
theorem dL_law_753 : decode cL_law 753 = .ok (.iaload, 1) := by decide +kernel
theorem dL_law_754 : decode cL_law 754 = .ok (.invokevirtual 105, 3) := by decide +kernel
theorem dL_law_757 : decode cL_law 757 = .ok (.aload_n 2, 1) := by decide +kernel
theorem dL_law_758 : decode cL_law 758 = .ok (.aload_n 0, 1) := by decide +kernel
theorem dL_law_759 : decode cL_law 759 = .ok (.iload_n 3, 1) := by decide +kernel
theorem dL_law_760 : decode cL_law 760 = .ok (.iconst 1, 1) := by decide +kernel
theorem dL_law_761 : decode cL_law 761 = .ok (.iadd, 1) := by decide +kernel
theorem dL_law_762 : decode cL_law 762 = .ok (.iaload, 1) := by decide +kernel
theorem dL_law_763 : decode cL_law 763 = .ok (.invokevirtual 108, 3) := by decide +kernel
theorem dL_law_766 : decode cL_law 766 = .ok (.if_icmp .eq 65, 3) := by decide +kernel
theorem dL_law_769 : decode cL_law 769 = .ok (.iconst 0, 1) := by decide +kernel
theorem dL_law_770 : decode cL_law 770 = .ok (.ireturn, 1) := by decide +kernel
theorem dL_law_771 : decode cL_law 771 = .ok (.aload_n 1, 1) := by decide +kernel
theorem dL_law_772 : decode cL_law 772 = .ok (.aload_n 0, 1) := by decide +kernel
theorem dL_law_773 : decode cL_law 773 = .ok (.iload_n 3, 1) := by decide +kernel
theorem dL_law_774 : decode cL_law 774 = .ok (.iconst 1, 1) := by decide +kernel
theorem dL_law_775 : decode cL_law 775 = .ok (.iadd, 1) := by decide +kernel
theorem dL_law_776 : decode cL_law 776 = .ok (.iaload, 1) := by decide +kernel
theorem dL_law_777 : decode cL_law 777 = .ok (.invokevirtual 109, 3) := by decide +kernel
theorem dL_law_780 : decode cL_law 780 = .ok (.aload_n 2, 1) := by decide +kernel
theorem dL_law_781 : decode cL_law 781 = .ok (.aload_n 0, 1) := by decide +kernel
theorem dL_law_782 : decode cL_law 782 = .ok (.iload_n 3, 1) := by decide +kernel
theorem dL_law_783 : decode cL_law 783 = .ok (.iconst 1, 1) := by decide +kernel
theorem dL_law_784 : decode cL_law 784 = .ok (.iadd, 1) := by decide +kernel
theorem dL_law_785 : decode cL_law 785 = .ok (.iaload, 1) := by decide +kernel
theorem dL_law_786 : decode cL_law 786 = .ok (.invokevirtual 112, 3) := by decide +kernel
theorem dL_law_789 : decode cL_law 789 = .ok (.if_icmp .eq 42, 3) := by decide +kernel
theorem dL_law_792 : decode cL_law 792 = .ok (.iconst 0, 1) := by decide +kernel
theorem dL_law_793 : decode cL_law 793 = .ok (.ireturn, 1) := by decide +kernel
theorem dL_law_794 : decode cL_law 794 = .ok (.aload_n 1, 1) := by decide +kernel
theorem dL_law_795 : decode cL_law 795 = .ok (.aload_n 0, 1) := by decide +kernel
theorem dL_law_796 : decode cL_law 796 = .ok (.iload_n 3, 1) := by decide +kernel
theorem dL_law_797 : decode cL_law 797 = .ok (.iconst 1, 1) := by decide +kernel
theorem dL_law_798 : decode cL_law 798 = .ok (.iadd, 1) := by decide +kernel
theorem dL_law_799 : decode cL_law 799 = .ok (.iaload, 1) := by decide +kernel
theorem dL_law_800 : decode cL_law 800 = .ok (.invokevirtual 113, 3) := by decide +kernel
theorem dL_law_803 : decode cL_law 803 = .ok (.aload_n 2, 1) := by decide +kernel
theorem dL_law_804 : decode cL_law 804 = .ok (.aload_n 0, 1) := by decide +kernel
theorem dL_law_805 : decode cL_law 805 = .ok (.iload_n 3, 1) := by decide +kernel
theorem dL_law_806 : decode cL_law 806 = .ok (.iconst 1, 1) := by decide +kernel
theorem dL_law_807 : decode cL_law 807 = .ok (.iadd, 1) := by decide +kernel
theorem dL_law_808 : decode cL_law 808 = .ok (.iaload, 1) := by decide +kernel
theorem dL_law_809 : decode cL_law 809 = .ok (.invokevirtual 116, 3) := by decide +kernel
theorem dL_law_812 : decode cL_law 812 = .ok (.if_icmp .eq 19, 3) := by decide +kernel
theorem dL_law_815 : decode cL_law 815 = .ok (.iconst 0, 1) := by decide +kernel
theorem dL_law_816 : decode cL_law 816 = .ok (.ireturn, 1) := by decide +kernel
theorem dL_law_817 : decode cL_law 817 = .ok (.aload_n 1, 1) := by decide +kernel
theorem dL_law_818 : decode cL_law 818 = .ok (.invokevirtual 117, 3) := by decide +kernel
theorem dL_law_821 : decode cL_law 821 = .ok (.aload_n 2, 1) := by decide +kernel
theorem dL_law_822 : decode cL_law 822 = .ok (.invokevirtual 121, 3) := by decide +kernel
theorem dL_law_825 : decode cL_law 825 = .ok (.lcmp, 1) := by decide +kernel
theorem dL_law_826 : decode cL_law 826 = .ok (.ifCond .eq 5, 3) := by decide +kernel
theorem dL_law_829 : decode cL_law 829 = .ok (.iconst 0, 1) := by decide +kernel
theorem dL_law_830 : decode cL_law 830 = .ok (.ireturn, 1) := by decide +kernel
theorem dL_law_831 : decode cL_law 831 = .ok (.iinc 3 4, 3) := by decide +kernel
theorem dL_law_834 : decode cL_law 834 = .ok (.goto (-816), 3) := by decide +kernel
theorem dL_law_837 : decode cL_law 837 = .ok (.iconst 1, 1) := by decide +kernel
theorem dL_law_838 : decode cL_law 838 = .ok (.ireturn, 1) := by decide +kernel
theorem dX0_allItMay_0 : decode cX0_allItMay 0 = .ok (.iconst 0, 1) := by decide +kernel
theorem dX0_allItMay_1 : decode cX0_allItMay 1 = .ok (.istore_n 2, 1) := by decide +kernel
theorem dX0_allItMay_2 : decode cX0_allItMay 2 = .ok (.iconst 0, 1) := by decide +kernel
theorem dX0_allItMay_3 : decode cX0_allItMay 3 = .ok (.istore_n 3, 1) := by decide +kernel
theorem dX0_allItMay_4 : decode cX0_allItMay 4 = .ok (.iload_n 3, 1) := by decide +kernel
theorem dX0_allItMay_5 : decode cX0_allItMay 5 = .ok (.aload_n 0, 1) := by decide +kernel
theorem dX0_allItMay_6 : decode cX0_allItMay 6 = .ok (.getfield 12, 3) := by decide +kernel
theorem dX0_allItMay_9 : decode cX0_allItMay 9 = .ok (.getfield 37, 3) := by decide +kernel
theorem dX0_allItMay_12 : decode cX0_allItMay 12 = .ok (.if_icmp .ge 24, 3) := by decide +kernel
theorem dX0_allItMay_15 : decode cX0_allItMay 15 = .ok (.aload_n 0, 1) := by decide +kernel
theorem dX0_allItMay_16 : decode cX0_allItMay 16 = .ok (.iload_n 1, 1) := by decide +kernel
theorem dX0_allItMay_17 : decode cX0_allItMay 17 = .ok (.iload_n 3, 1) := by decide +kernel
theorem dX0_allItMay_18 : decode cX0_allItMay 18 = .ok (.invokevirtual 68, 3) := by decide +kernel
theorem dX0_allItMay_21 : decode cX0_allItMay 21 = .ok (.ifCond .eq 9, 3) := by decide +kernel
theorem dX0_allItMay_24 : decode cX0_allItMay 24 = .ok (.iload_n 2, 1) := by decide +kernel
theorem dX0_allItMay_25 : decode cX0_allItMay 25 = .ok (.iconst 1, 1) := by decide +kernel
theorem dX0_allItMay_26 : decode cX0_allItMay 26 = .ok (.iload_n 3, 1) := by decide +kernel
theorem dX0_allItMay_27 : decode cX0_allItMay 27 = .ok (.ishl, 1) := by decide +kernel
theorem dX0_allItMay_28 : decode cX0_allItMay 28 = .ok (.ior, 1) := by decide +kernel
theorem dX0_allItMay_29 : decode cX0_allItMay 29 = .ok (.istore_n 2, 1) := by decide +kernel
theorem dX0_allItMay_30 : decode cX0_allItMay 30 = .ok (.iinc 3 1, 3) := by decide +kernel
theorem dX0_allItMay_33 : decode cX0_allItMay 33 = .ok (.goto (-29), 3) := by decide +kernel
theorem dX0_allItMay_36 : decode cX0_allItMay 36 = .ok (.iload_n 2, 1) := by decide +kernel
theorem dX0_allItMay_37 : decode cX0_allItMay 37 = .ok (.ireturn, 1) := by decide +kernel
theorem dX0_attend_0 : decode cX0_attend 0 = .ok (.iload_n 1, 1) := by decide +kernel
theorem dX0_attend_1 : decode cX0_attend 1 = .ok (.bipush 8, 2) := by decide +kernel
theorem dX0_attend_3 : decode cX0_attend 3 = .ok (.imul, 1) := by decide +kernel
theorem dX0_attend_4 : decode cX0_attend 4 = .ok (.iload_n 2, 1) := by decide +kernel
theorem dX0_attend_5 : decode cX0_attend 5 = .ok (.iadd, 1) := by decide +kernel
theorem dX0_attend_6 : decode cX0_attend 6 = .ok (.istore_n 3, 1) := by decide +kernel
theorem dX0_attend_7 : decode cX0_attend 7 = .ok (.aload_n 0, 1) := by decide +kernel
theorem dX0_attend_8 : decode cX0_attend 8 = .ok (.getfield 21, 3) := by decide +kernel
theorem dX0_attend_11 : decode cX0_attend 11 = .ok (.getfield 87, 3) := by decide +kernel
theorem dX0_attend_14 : decode cX0_attend 14 = .ok (.iload_n 3, 1) := by decide +kernel
theorem dX0_attend_15 : decode cX0_attend 15 = .ok (.dup2, 1) := by decide +kernel
theorem dX0_attend_16 : decode cX0_attend 16 = .ok (.iaload, 1) := by decide +kernel
theorem dX0_attend_17 : decode cX0_attend 17 = .ok (.aload_n 0, 1) := by decide +kernel
theorem dX0_attend_18 : decode cX0_attend 18 = .ok (.getfield 12, 3) := by decide +kernel
theorem dX0_attend_21 : decode cX0_attend 21 = .ok (.getfield 90, 3) := by decide +kernel
theorem dX0_attend_24 : decode cX0_attend 24 = .ok (.iload_n 1, 1) := by decide +kernel
theorem dX0_attend_25 : decode cX0_attend 25 = .ok (.iaload, 1) := by decide +kernel
theorem dX0_attend_26 : decode cX0_attend 26 = .ok (.iadd, 1) := by decide +kernel
theorem dX0_attend_27 : decode cX0_attend 27 = .ok (.iastore, 1) := by decide +kernel
theorem dX0_attend_28 : decode cX0_attend 28 = .ok (.aload_n 0, 1) := by decide +kernel
theorem dX0_attend_29 : decode cX0_attend 29 = .ok (.getfield 21, 3) := by decide +kernel
theorem dX0_attend_32 : decode cX0_attend 32 = .ok (.getfield 93, 3) := by decide +kernel
theorem dX0_attend_35 : decode cX0_attend 35 = .ok (.iload_n 1, 1) := by decide +kernel
theorem dX0_attend_36 : decode cX0_attend 36 = .ok (.dup2, 1) := by decide +kernel
theorem dX0_attend_37 : decode cX0_attend 37 = .ok (.iaload, 1) := by decide +kernel
theorem dX0_attend_38 : decode cX0_attend 38 = .ok (.aload_n 0, 1) := by decide +kernel
theorem dX0_attend_39 : decode cX0_attend 39 = .ok (.getfield 12, 3) := by decide +kernel
theorem dX0_attend_42 : decode cX0_attend 42 = .ok (.getfield 96, 3) := by decide +kernel
theorem dX0_attend_45 : decode cX0_attend 45 = .ok (.iload_n 2, 1) := by decide +kernel
theorem dX0_attend_46 : decode cX0_attend 46 = .ok (.iaload, 1) := by decide +kernel
theorem dX0_attend_47 : decode cX0_attend 47 = .ok (.iadd, 1) := by decide +kernel
theorem dX0_attend_48 : decode cX0_attend 48 = .ok (.iastore, 1) := by decide +kernel
theorem dX0_attend_49 : decode cX0_attend 49 = .ok (.aload_n 0, 1) := by decide +kernel
theorem dX0_attend_50 : decode cX0_attend 50 = .ok (.getfield 21, 3) := by decide +kernel
theorem dX0_attend_53 : decode cX0_attend 53 = .ok (.getfield 93, 3) := by decide +kernel
theorem dX0_attend_56 : decode cX0_attend 56 = .ok (.iload_n 1, 1) := by decide +kernel
theorem dX0_attend_57 : decode cX0_attend 57 = .ok (.iaload, 1) := by decide +kernel
theorem dX0_attend_58 : decode cX0_attend 58 = .ok (.aload_n 0, 1) := by decide +kernel
theorem dX0_attend_59 : decode cX0_attend 59 = .ok (.getfield 12, 3) := by decide +kernel
theorem dX0_attend_62 : decode cX0_attend 62 = .ok (.getfield 99, 3) := by decide +kernel
theorem dX0_attend_65 : decode cX0_attend 65 = .ok (.iload_n 1, 1) := by decide +kernel
theorem dX0_attend_66 : decode cX0_attend 66 = .ok (.iaload, 1) := by decide +kernel
theorem dX0_attend_67 : decode cX0_attend 67 = .ok (.if_icmp .le 31, 3) := by decide +kernel
theorem dX0_attend_70 : decode cX0_attend 70 = .ok (.aload_n 0, 1) := by decide +kernel
theorem dX0_attend_71 : decode cX0_attend 71 = .ok (.getfield 21, 3) := by decide +kernel
theorem dX0_attend_74 : decode cX0_attend 74 = .ok (.dup, 1) := by decide +kernel
theorem dX0_attend_75 : decode cX0_attend 75 = .ok (.getfield 44, 3) := by decide +kernel
theorem dX0_attend_78 : decode cX0_attend 78 = .ok (.iconst 1, 1) := by decide +kernel
theorem dX0_attend_79 : decode cX0_attend 79 = .ok (.iload_n 1, 1) := by decide +kernel
theorem dX0_attend_80 : decode cX0_attend 80 = .ok (.ishl, 1) := by decide +kernel
theorem dX0_attend_81 : decode cX0_attend 81 = .ok (.ior, 1) := by decide +kernel
theorem dX0_attend_82 : decode cX0_attend 82 = .ok (.putfield 44, 3) := by decide +kernel
theorem dX0_attend_85 : decode cX0_attend 85 = .ok (.aload_n 0, 1) := by decide +kernel
theorem dX0_attend_86 : decode cX0_attend 86 = .ok (.getfield 21, 3) := by decide +kernel
theorem dX0_attend_89 : decode cX0_attend 89 = .ok (.getfield 71, 3) := by decide +kernel
theorem dX0_attend_92 : decode cX0_attend 92 = .ok (.iload_n 1, 1) := by decide +kernel
theorem dX0_attend_93 : decode cX0_attend 93 = .ok (.iconst (-1), 1) := by decide +kernel
theorem dX0_attend_94 : decode cX0_attend 94 = .ok (.iastore, 1) := by decide +kernel
theorem dX0_attend_95 : decode cX0_attend 95 = .ok (.goto 49, 3) := by decide +kernel
theorem dX0_attend_98 : decode cX0_attend 98 = .ok (.aload_n 0, 1) := by decide +kernel
theorem dX0_attend_99 : decode cX0_attend 99 = .ok (.getfield 21, 3) := by decide +kernel
theorem dX0_attend_102 : decode cX0_attend 102 = .ok (.getfield 87, 3) := by decide +kernel
theorem dX0_attend_105 : decode cX0_attend 105 = .ok (.iload_n 3, 1) := by decide +kernel
theorem dX0_attend_106 : decode cX0_attend 106 = .ok (.iaload, 1) := by decide +kernel
theorem dX0_attend_107 : decode cX0_attend 107 = .ok (.aload_n 0, 1) := by decide +kernel
theorem dX0_attend_108 : decode cX0_attend 108 = .ok (.getfield 12, 3) := by decide +kernel
theorem dX0_attend_111 : decode cX0_attend 111 = .ok (.getfield 102, 3) := by decide +kernel
theorem dX0_attend_114 : decode cX0_attend 114 = .ok (.iload_n 2, 1) := by decide +kernel
theorem dX0_attend_115 : decode cX0_attend 115 = .ok (.iaload, 1) := by decide +kernel
theorem dX0_attend_116 : decode cX0_attend 116 = .ok (.if_icmp .lt 28, 3) := by decide +kernel
theorem dX0_attend_119 : decode cX0_attend 119 = .ok (.aload_n 0, 1) := by decide +kernel
theorem dX0_attend_120 : decode cX0_attend 120 = .ok (.getfield 21, 3) := by decide +kernel
theorem dX0_attend_123 : decode cX0_attend 123 = .ok (.getfield 59, 3) := by decide +kernel
theorem dX0_attend_126 : decode cX0_attend 126 = .ok (.iload_n 1, 1) := by decide +kernel
theorem dX0_attend_127 : decode cX0_attend 127 = .ok (.dup2, 1) := by decide +kernel
theorem dX0_attend_128 : decode cX0_attend 128 = .ok (.iaload, 1) := by decide +kernel
theorem dX0_attend_129 : decode cX0_attend 129 = .ok (.iconst 1, 1) := by decide +kernel
theorem dX0_attend_130 : decode cX0_attend 130 = .ok (.iload_n 2, 1) := by decide +kernel
theorem dX0_attend_131 : decode cX0_attend 131 = .ok (.ishl, 1) := by decide +kernel
theorem dX0_attend_132 : decode cX0_attend 132 = .ok (.ior, 1) := by decide +kernel
theorem dX0_attend_133 : decode cX0_attend 133 = .ok (.iastore, 1) := by decide +kernel
theorem dX0_attend_134 : decode cX0_attend 134 = .ok (.aload_n 0, 1) := by decide +kernel
theorem dX0_attend_135 : decode cX0_attend 135 = .ok (.getfield 21, 3) := by decide +kernel
theorem dX0_attend_138 : decode cX0_attend 138 = .ok (.getfield 71, 3) := by decide +kernel
theorem dX0_attend_141 : decode cX0_attend 141 = .ok (.iload_n 1, 1) := by decide +kernel
theorem dX0_attend_142 : decode cX0_attend 142 = .ok (.iconst (-1), 1) := by decide +kernel
theorem dX0_attend_143 : decode cX0_attend 143 = .ok (.iastore, 1) := by decide +kernel
theorem dX0_attend_144 : decode cX0_attend 144 = .ok (.return_, 1) := by decide +kernel
theorem dX0_beginAs_0 : decode cX0_beginAs 0 = .ok (.aload_n 0, 1) := by decide +kernel
theorem dX0_beginAs_1 : decode cX0_beginAs 1 = .ok (.getfield 12, 3) := by decide +kernel
theorem dX0_beginAs_4 : decode cX0_beginAs 4 = .ok (.aload_n 1, 1) := by decide +kernel
theorem dX0_beginAs_5 : decode cX0_beginAs 5 = .ok (.invokevirtual 25, 3) := by decide +kernel
theorem dX0_beginAs_8 : decode cX0_beginAs 8 = .ok (.aload_n 0, 1) := by decide +kernel
theorem dX0_beginAs_9 : decode cX0_beginAs 9 = .ok (.getfield 21, 3) := by decide +kernel
theorem dX0_beginAs_12 : decode cX0_beginAs 12 = .ok (.aload_n 0, 1) := by decide +kernel
theorem dX0_beginAs_13 : decode cX0_beginAs 13 = .ok (.getfield 12, 3) := by decide +kernel
theorem dX0_beginAs_16 : decode cX0_beginAs 16 = .ok (.getfield 29, 3) := by decide +kernel
theorem dX0_beginAs_19 : decode cX0_beginAs 19 = .ok (.invokevirtual 33, 3) := by decide +kernel
theorem dX0_beginAs_22 : decode cX0_beginAs 22 = .ok (.return_, 1) := by decide +kernel
theorem dX0_init_0 : decode cX0_init 0 = .ok (.aload_n 0, 1) := by decide +kernel
theorem dX0_init_1 : decode cX0_init 1 = .ok (.invokespecial 3, 3) := by decide +kernel
theorem dX0_init_4 : decode cX0_init 4 = .ok (.aload_n 0, 1) := by decide +kernel
theorem dX0_init_5 : decode cX0_init 5 = .ok (.new 9, 3) := by decide +kernel
theorem dX0_init_8 : decode cX0_init 8 = .ok (.dup, 1) := by decide +kernel
theorem dX0_init_9 : decode cX0_init 9 = .ok (.invokespecial 11, 3) := by decide +kernel
theorem dX0_init_12 : decode cX0_init 12 = .ok (.putfield 12, 3) := by decide +kernel
theorem dX0_init_15 : decode cX0_init 15 = .ok (.aload_n 0, 1) := by decide +kernel
theorem dX0_init_16 : decode cX0_init 16 = .ok (.new 18, 3) := by decide +kernel
theorem dX0_init_19 : decode cX0_init 19 = .ok (.dup, 1) := by decide +kernel
theorem dX0_init_20 : decode cX0_init 20 = .ok (.invokespecial 20, 3) := by decide +kernel
theorem dX0_init_23 : decode cX0_init 23 = .ok (.putfield 21, 3) := by decide +kernel
theorem dX0_init_26 : decode cX0_init 26 = .ok (.return_, 1) := by decide +kernel
theorem dX0_isBroken_0 : decode cX0_isBroken 0 = .ok (.aload_n 0, 1) := by decide +kernel
theorem dX0_isBroken_1 : decode cX0_isBroken 1 = .ok (.getfield 21, 3) := by decide +kernel
theorem dX0_isBroken_4 : decode cX0_isBroken 4 = .ok (.getfield 44, 3) := by decide +kernel
theorem dX0_isBroken_7 : decode cX0_isBroken 7 = .ok (.iload_n 1, 1) := by decide +kernel
theorem dX0_isBroken_8 : decode cX0_isBroken 8 = .ok (.invokestatic 47, 3) := by decide +kernel
theorem dX0_isBroken_11 : decode cX0_isBroken 11 = .ok (.ireturn, 1) := by decide +kernel
theorem dX0_isCast_0 : decode cX0_isCast 0 = .ok (.iload_n 1, 1) := by decide +kernel
theorem dX0_isCast_1 : decode cX0_isCast 1 = .ok (.ifCond .lt 18, 3) := by decide +kernel
theorem dX0_isCast_4 : decode cX0_isCast 4 = .ok (.iload_n 1, 1) := by decide +kernel
theorem dX0_isCast_5 : decode cX0_isCast 5 = .ok (.aload_n 0, 1) := by decide +kernel
theorem dX0_isCast_6 : decode cX0_isCast 6 = .ok (.getfield 12, 3) := by decide +kernel
theorem dX0_isCast_9 : decode cX0_isCast 9 = .ok (.getfield 41, 3) := by decide +kernel
theorem dX0_isCast_12 : decode cX0_isCast 12 = .ok (.if_icmp .ge 7, 3) := by decide +kernel
theorem dX0_isCast_15 : decode cX0_isCast 15 = .ok (.iconst 1, 1) := by decide +kernel
theorem dX0_isCast_16 : decode cX0_isCast 16 = .ok (.goto 4, 3) := by decide +kernel
theorem dX0_isCast_19 : decode cX0_isCast 19 = .ok (.iconst 0, 1) := by decide +kernel
theorem dX0_isCast_20 : decode cX0_isCast 20 = .ok (.ireturn, 1) := by decide +kernel
theorem dX0_isThing_0 : decode cX0_isThing 0 = .ok (.iload_n 1, 1) := by decide +kernel
theorem dX0_isThing_1 : decode cX0_isThing 1 = .ok (.ifCond .lt 18, 3) := by decide +kernel
theorem dX0_isThing_4 : decode cX0_isThing 4 = .ok (.iload_n 1, 1) := by decide +kernel
theorem dX0_isThing_5 : decode cX0_isThing 5 = .ok (.aload_n 0, 1) := by decide +kernel
theorem dX0_isThing_6 : decode cX0_isThing 6 = .ok (.getfield 12, 3) := by decide +kernel
theorem dX0_isThing_9 : decode cX0_isThing 9 = .ok (.getfield 37, 3) := by decide +kernel
theorem dX0_isThing_12 : decode cX0_isThing 12 = .ok (.if_icmp .ge 7, 3) := by decide +kernel
theorem dX0_isThing_15 : decode cX0_isThing 15 = .ok (.iconst 1, 1) := by decide +kernel
theorem dX0_isThing_16 : decode cX0_isThing 16 = .ok (.goto 4, 3) := by decide +kernel
theorem dX0_isThing_19 : decode cX0_isThing 19 = .ok (.iconst 0, 1) := by decide +kernel
theorem dX0_isThing_20 : decode cX0_isThing 20 = .ok (.ireturn, 1) := by decide +kernel
theorem dX0_joinOn_0 : decode cX0_joinOn 0 = .ok (.aload_n 0, 1) := by decide +kernel
theorem dX0_joinOn_1 : decode cX0_joinOn 1 = .ok (.getfield 21, 3) := by decide +kernel
theorem dX0_joinOn_4 : decode cX0_joinOn 4 = .ok (.getfield 51, 3) := by decide +kernel
theorem dX0_joinOn_7 : decode cX0_joinOn 7 = .ok (.iload_n 1, 1) := by decide +kernel
theorem dX0_joinOn_8 : decode cX0_joinOn 8 = .ok (.dup2, 1) := by decide +kernel
theorem dX0_joinOn_9 : decode cX0_joinOn 9 = .ok (.iaload, 1) := by decide +kernel
theorem dX0_joinOn_10 : decode cX0_joinOn 10 = .ok (.iconst 1, 1) := by decide +kernel
theorem dX0_joinOn_11 : decode cX0_joinOn 11 = .ok (.iload_n 3, 1) := by decide +kernel
theorem dX0_joinOn_12 : decode cX0_joinOn 12 = .ok (.ishl, 1) := by decide +kernel
theorem dX0_joinOn_13 : decode cX0_joinOn 13 = .ok (.ior, 1) := by decide +kernel
theorem dX0_joinOn_14 : decode cX0_joinOn 14 = .ok (.iastore, 1) := by decide +kernel
theorem dX0_joinOn_15 : decode cX0_joinOn 15 = .ok (.aload_n 0, 1) := by decide +kernel
theorem dX0_joinOn_16 : decode cX0_joinOn 16 = .ok (.getfield 21, 3) := by decide +kernel
theorem dX0_joinOn_19 : decode cX0_joinOn 19 = .ok (.getfield 51, 3) := by decide +kernel
theorem dX0_joinOn_22 : decode cX0_joinOn 22 = .ok (.iload_n 2, 1) := by decide +kernel
theorem dX0_joinOn_23 : decode cX0_joinOn 23 = .ok (.dup2, 1) := by decide +kernel
theorem dX0_joinOn_24 : decode cX0_joinOn 24 = .ok (.iaload, 1) := by decide +kernel
theorem dX0_joinOn_25 : decode cX0_joinOn 25 = .ok (.iconst 1, 1) := by decide +kernel
theorem dX0_joinOn_26 : decode cX0_joinOn 26 = .ok (.iload_n 3, 1) := by decide +kernel
theorem dX0_joinOn_27 : decode cX0_joinOn 27 = .ok (.ishl, 1) := by decide +kernel
theorem dX0_joinOn_28 : decode cX0_joinOn 28 = .ok (.iconst (-1), 1) := by decide +kernel
theorem dX0_joinOn_29 : decode cX0_joinOn 29 = .ok (.ixor, 1) := by decide +kernel
theorem dX0_joinOn_30 : decode cX0_joinOn 30 = .ok (.iand, 1) := by decide +kernel
theorem dX0_joinOn_31 : decode cX0_joinOn 31 = .ok (.iastore, 1) := by decide +kernel
theorem dX0_joinOn_32 : decode cX0_joinOn 32 = .ok (.aload_n 0, 1) := by decide +kernel
theorem dX0_joinOn_33 : decode cX0_joinOn 33 = .ok (.getfield 21, 3) := by decide +kernel
theorem dX0_joinOn_36 : decode cX0_joinOn 36 = .ok (.getfield 71, 3) := by decide +kernel
theorem dX0_joinOn_39 : decode cX0_joinOn 39 = .ok (.iload_n 1, 1) := by decide +kernel
theorem dX0_joinOn_40 : decode cX0_joinOn 40 = .ok (.iaload, 1) := by decide +kernel
theorem dX0_joinOn_41 : decode cX0_joinOn 41 = .ok (.istore 4, 2) := by decide +kernel
theorem dX0_joinOn_43 : decode cX0_joinOn 43 = .ok (.iload 4, 2) := by decide +kernel
theorem dX0_joinOn_45 : decode cX0_joinOn 45 = .ok (.iconst (-1), 1) := by decide +kernel
theorem dX0_joinOn_46 : decode cX0_joinOn 46 = .ok (.if_icmp .eq 27, 3) := by decide +kernel
theorem dX0_joinOn_49 : decode cX0_joinOn 49 = .ok (.aload_n 0, 1) := by decide +kernel
theorem dX0_joinOn_50 : decode cX0_joinOn 50 = .ok (.getfield 12, 3) := by decide +kernel
theorem dX0_joinOn_53 : decode cX0_joinOn 53 = .ok (.getfield 52, 3) := by decide +kernel
theorem dX0_joinOn_56 : decode cX0_joinOn 56 = .ok (.iload 4, 2) := by decide +kernel
theorem dX0_joinOn_58 : decode cX0_joinOn 58 = .ok (.iaload, 1) := by decide +kernel
theorem dX0_joinOn_59 : decode cX0_joinOn 59 = .ok (.iload_n 3, 1) := by decide +kernel
theorem dX0_joinOn_60 : decode cX0_joinOn 60 = .ok (.if_icmp .ne 13, 3) := by decide +kernel
theorem dX0_joinOn_63 : decode cX0_joinOn 63 = .ok (.aload_n 0, 1) := by decide +kernel
theorem dX0_joinOn_64 : decode cX0_joinOn 64 = .ok (.getfield 21, 3) := by decide +kernel
theorem dX0_joinOn_67 : decode cX0_joinOn 67 = .ok (.getfield 71, 3) := by decide +kernel
theorem dX0_joinOn_70 : decode cX0_joinOn 70 = .ok (.iload_n 1, 1) := by decide +kernel
theorem dX0_joinOn_71 : decode cX0_joinOn 71 = .ok (.iconst (-1), 1) := by decide +kernel
theorem dX0_joinOn_72 : decode cX0_joinOn 72 = .ok (.iastore, 1) := by decide +kernel
theorem dX0_joinOn_73 : decode cX0_joinOn 73 = .ok (.return_, 1) := by decide +kernel
theorem dX0_lacksPartOf_0 : decode cX0_lacksPartOf 0 = .ok (.aload_n 0, 1) := by decide +kernel
theorem dX0_lacksPartOf_1 : decode cX0_lacksPartOf 1 = .ok (.getfield 21, 3) := by decide +kernel
theorem dX0_lacksPartOf_4 : decode cX0_lacksPartOf 4 = .ok (.getfield 51, 3) := by decide +kernel
theorem dX0_lacksPartOf_7 : decode cX0_lacksPartOf 7 = .ok (.iload_n 1, 1) := by decide +kernel
theorem dX0_lacksPartOf_8 : decode cX0_lacksPartOf 8 = .ok (.iaload, 1) := by decide +kernel
theorem dX0_lacksPartOf_9 : decode cX0_lacksPartOf 9 = .ok (.aload_n 0, 1) := by decide +kernel
theorem dX0_lacksPartOf_10 : decode cX0_lacksPartOf 10 = .ok (.getfield 12, 3) := by decide +kernel
theorem dX0_lacksPartOf_13 : decode cX0_lacksPartOf 13 = .ok (.getfield 52, 3) := by decide +kernel
theorem dX0_lacksPartOf_16 : decode cX0_lacksPartOf 16 = .ok (.iload_n 2, 1) := by decide +kernel
theorem dX0_lacksPartOf_17 : decode cX0_lacksPartOf 17 = .ok (.iaload, 1) := by decide +kernel
theorem dX0_lacksPartOf_18 : decode cX0_lacksPartOf 18 = .ok (.invokestatic 47, 3) := by decide +kernel
theorem dX0_lacksPartOf_21 : decode cX0_lacksPartOf 21 = .ok (.ireturn, 1) := by decide +kernel
theorem dX0_learntByAll_0 : decode cX0_learntByAll 0 = .ok (.iconst 0, 1) := by decide +kernel
theorem dX0_learntByAll_1 : decode cX0_learntByAll 1 = .ok (.istore_n 1, 1) := by decide +kernel
theorem dX0_learntByAll_2 : decode cX0_learntByAll 2 = .ok (.iconst 0, 1) := by decide +kernel
theorem dX0_learntByAll_3 : decode cX0_learntByAll 3 = .ok (.istore_n 2, 1) := by decide +kernel
theorem dX0_learntByAll_4 : decode cX0_learntByAll 4 = .ok (.iload_n 2, 1) := by decide +kernel
theorem dX0_learntByAll_5 : decode cX0_learntByAll 5 = .ok (.aload_n 0, 1) := by decide +kernel
theorem dX0_learntByAll_6 : decode cX0_learntByAll 6 = .ok (.getfield 12, 3) := by decide +kernel
theorem dX0_learntByAll_9 : decode cX0_learntByAll 9 = .ok (.getfield 41, 3) := by decide +kernel
theorem dX0_learntByAll_12 : decode cX0_learntByAll 12 = .ok (.if_icmp .ge 24, 3) := by decide +kernel
theorem dX0_learntByAll_15 : decode cX0_learntByAll 15 = .ok (.iload_n 1, 1) := by decide +kernel
theorem dX0_learntByAll_16 : decode cX0_learntByAll 16 = .ok (.aload_n 0, 1) := by decide +kernel
theorem dX0_learntByAll_17 : decode cX0_learntByAll 17 = .ok (.getfield 21, 3) := by decide +kernel
theorem dX0_learntByAll_20 : decode cX0_learntByAll 20 = .ok (.getfield 59, 3) := by decide +kernel
theorem dX0_learntByAll_23 : decode cX0_learntByAll 23 = .ok (.iload_n 2, 1) := by decide +kernel
theorem dX0_learntByAll_24 : decode cX0_learntByAll 24 = .ok (.iaload, 1) := by decide +kernel
theorem dX0_learntByAll_25 : decode cX0_learntByAll 25 = .ok (.invokestatic 74, 3) := by decide +kernel
theorem dX0_learntByAll_28 : decode cX0_learntByAll 28 = .ok (.iadd, 1) := by decide +kernel
theorem dX0_learntByAll_29 : decode cX0_learntByAll 29 = .ok (.istore_n 1, 1) := by decide +kernel
theorem dX0_learntByAll_30 : decode cX0_learntByAll 30 = .ok (.iinc 2 1, 3) := by decide +kernel
theorem dX0_learntByAll_33 : decode cX0_learntByAll 33 = .ok (.goto (-29), 3) := by decide +kernel
theorem dX0_learntByAll_36 : decode cX0_learntByAll 36 = .ok (.iload_n 1, 1) := by decide +kernel
theorem dX0_learntByAll_37 : decode cX0_learntByAll 37 = .ok (.ireturn, 1) := by decide +kernel
theorem dX0_leastTree_0 : decode cX0_leastTree 0 = .ok (.iconst 0, 1) := by decide +kernel
theorem dX0_leastTree_1 : decode cX0_leastTree 1 = .ok (.istore_n 1, 1) := by decide +kernel
theorem dX0_leastTree_2 : decode cX0_leastTree 2 = .ok (.iconst 1, 1) := by decide +kernel
theorem dX0_leastTree_3 : decode cX0_leastTree 3 = .ok (.istore_n 2, 1) := by decide +kernel
theorem dX0_leastTree_4 : decode cX0_leastTree 4 = .ok (.iconst 1, 1) := by decide +kernel
theorem dX0_leastTree_5 : decode cX0_leastTree 5 = .ok (.istore_n 3, 1) := by decide +kernel
theorem dX0_leastTree_6 : decode cX0_leastTree 6 = .ok (.iload_n 3, 1) := by decide +kernel
theorem dX0_leastTree_7 : decode cX0_leastTree 7 = .ok (.aload_n 0, 1) := by decide +kernel
theorem dX0_leastTree_8 : decode cX0_leastTree 8 = .ok (.getfield 12, 3) := by decide +kernel
theorem dX0_leastTree_11 : decode cX0_leastTree 11 = .ok (.getfield 41, 3) := by decide +kernel
theorem dX0_leastTree_14 : decode cX0_leastTree 14 = .ok (.if_icmp .ge 83, 3) := by decide +kernel
theorem dX0_leastTree_17 : decode cX0_leastTree 17 = .ok (.iconst 0, 1) := by decide +kernel
theorem dX0_leastTree_18 : decode cX0_leastTree 18 = .ok (.istore 4, 2) := by decide +kernel
theorem dX0_leastTree_20 : decode cX0_leastTree 20 = .ok (.bipush 7, 2) := by decide +kernel
theorem dX0_leastTree_22 : decode cX0_leastTree 22 = .ok (.istore 5, 2) := by decide +kernel
theorem dX0_leastTree_24 : decode cX0_leastTree 24 = .ok (.iconst 1, 1) := by decide +kernel
theorem dX0_leastTree_25 : decode cX0_leastTree 25 = .ok (.istore 6, 2) := by decide +kernel
theorem dX0_leastTree_27 : decode cX0_leastTree 27 = .ok (.iload 6, 2) := by decide +kernel
theorem dX0_leastTree_29 : decode cX0_leastTree 29 = .ok (.aload_n 0, 1) := by decide +kernel
theorem dX0_leastTree_30 : decode cX0_leastTree 30 = .ok (.getfield 12, 3) := by decide +kernel
theorem dX0_leastTree_33 : decode cX0_leastTree 33 = .ok (.getfield 41, 3) := by decide +kernel
theorem dX0_leastTree_36 : decode cX0_leastTree 36 = .ok (.if_icmp .ge 43, 3) := by decide +kernel
theorem dX0_leastTree_39 : decode cX0_leastTree 39 = .ok (.iload_n 2, 1) := by decide +kernel
theorem dX0_leastTree_40 : decode cX0_leastTree 40 = .ok (.iload 6, 2) := by decide +kernel
theorem dX0_leastTree_42 : decode cX0_leastTree 42 = .ok (.invokestatic 47, 3) := by decide +kernel
theorem dX0_leastTree_45 : decode cX0_leastTree 45 = .ok (.ifCond .ne 28, 3) := by decide +kernel
theorem dX0_leastTree_48 : decode cX0_leastTree 48 = .ok (.aload_n 0, 1) := by decide +kernel
theorem dX0_leastTree_49 : decode cX0_leastTree 49 = .ok (.iload 6, 2) := by decide +kernel
theorem dX0_leastTree_51 : decode cX0_leastTree 51 = .ok (.iload_n 2, 1) := by decide +kernel
theorem dX0_leastTree_52 : decode cX0_leastTree 52 = .ok (.invokevirtual 105, 3) := by decide +kernel
theorem dX0_leastTree_55 : decode cX0_leastTree 55 = .ok (.iload 5, 2) := by decide +kernel
theorem dX0_leastTree_57 : decode cX0_leastTree 57 = .ok (.if_icmp .ge 16, 3) := by decide +kernel
theorem dX0_leastTree_60 : decode cX0_leastTree 60 = .ok (.iload 6, 2) := by decide +kernel
theorem dX0_leastTree_62 : decode cX0_leastTree 62 = .ok (.istore 4, 2) := by decide +kernel
theorem dX0_leastTree_64 : decode cX0_leastTree 64 = .ok (.aload_n 0, 1) := by decide +kernel
theorem dX0_leastTree_65 : decode cX0_leastTree 65 = .ok (.iload 6, 2) := by decide +kernel
theorem dX0_leastTree_67 : decode cX0_leastTree 67 = .ok (.iload_n 2, 1) := by decide +kernel
theorem dX0_leastTree_68 : decode cX0_leastTree 68 = .ok (.invokevirtual 105, 3) := by decide +kernel
theorem dX0_leastTree_71 : decode cX0_leastTree 71 = .ok (.istore 5, 2) := by decide +kernel
theorem dX0_leastTree_73 : decode cX0_leastTree 73 = .ok (.iinc 6 1, 3) := by decide +kernel
theorem dX0_leastTree_76 : decode cX0_leastTree 76 = .ok (.goto (-49), 3) := by decide +kernel
theorem dX0_leastTree_79 : decode cX0_leastTree 79 = .ok (.iload_n 2, 1) := by decide +kernel
theorem dX0_leastTree_80 : decode cX0_leastTree 80 = .ok (.iconst 1, 1) := by decide +kernel
theorem dX0_leastTree_81 : decode cX0_leastTree 81 = .ok (.iload 4, 2) := by decide +kernel
theorem dX0_leastTree_83 : decode cX0_leastTree 83 = .ok (.ishl, 1) := by decide +kernel
theorem dX0_leastTree_84 : decode cX0_leastTree 84 = .ok (.ior, 1) := by decide +kernel
theorem dX0_leastTree_85 : decode cX0_leastTree 85 = .ok (.istore_n 2, 1) := by decide +kernel
theorem dX0_leastTree_86 : decode cX0_leastTree 86 = .ok (.iload_n 1, 1) := by decide +kernel
theorem dX0_leastTree_87 : decode cX0_leastTree 87 = .ok (.iload 5, 2) := by decide +kernel
theorem dX0_leastTree_89 : decode cX0_leastTree 89 = .ok (.iadd, 1) := by decide +kernel
theorem dX0_leastTree_90 : decode cX0_leastTree 90 = .ok (.istore_n 1, 1) := by decide +kernel
theorem dX0_leastTree_91 : decode cX0_leastTree 91 = .ok (.iinc 3 1, 3) := by decide +kernel
theorem dX0_leastTree_94 : decode cX0_leastTree 94 = .ok (.goto (-88), 3) := by decide +kernel
theorem dX0_leastTree_97 : decode cX0_leastTree 97 = .ok (.iload_n 1, 1) := by decide +kernel
theorem dX0_leastTree_98 : decode cX0_leastTree 98 = .ok (.ireturn, 1) := by decide +kernel
theorem dX0_may_0 : decode cX0_may 0 = .ok (.aload_n 0, 1) := by decide +kernel
theorem dX0_may_1 : decode cX0_may 1 = .ok (.iload_n 1, 1) := by decide +kernel
theorem dX0_may_2 : decode cX0_may 2 = .ok (.invokevirtual 55, 3) := by decide +kernel
theorem dX0_may_5 : decode cX0_may 5 = .ok (.ifCond .ne 56, 3) := by decide +kernel
theorem dX0_may_8 : decode cX0_may 8 = .ok (.aload_n 0, 1) := by decide +kernel
theorem dX0_may_9 : decode cX0_may 9 = .ok (.getfield 21, 3) := by decide +kernel
theorem dX0_may_12 : decode cX0_may 12 = .ok (.getfield 59, 3) := by decide +kernel
theorem dX0_may_15 : decode cX0_may 15 = .ok (.iload_n 1, 1) := by decide +kernel
theorem dX0_may_16 : decode cX0_may 16 = .ok (.iaload, 1) := by decide +kernel
theorem dX0_may_17 : decode cX0_may 17 = .ok (.iload_n 2, 1) := by decide +kernel
theorem dX0_may_18 : decode cX0_may 18 = .ok (.invokestatic 47, 3) := by decide +kernel
theorem dX0_may_21 : decode cX0_may 21 = .ok (.ifCond .ne 40, 3) := by decide +kernel
theorem dX0_may_24 : decode cX0_may 24 = .ok (.aload_n 0, 1) := by decide +kernel
theorem dX0_may_25 : decode cX0_may 25 = .ok (.getfield 12, 3) := by decide +kernel
theorem dX0_may_28 : decode cX0_may 28 = .ok (.getfield 62, 3) := by decide +kernel
theorem dX0_may_31 : decode cX0_may 31 = .ok (.iload_n 2, 1) := by decide +kernel
theorem dX0_may_32 : decode cX0_may 32 = .ok (.iaload, 1) := by decide +kernel
theorem dX0_may_33 : decode cX0_may 33 = .ok (.aload_n 0, 1) := by decide +kernel
theorem dX0_may_34 : decode cX0_may 34 = .ok (.getfield 21, 3) := by decide +kernel
theorem dX0_may_37 : decode cX0_may 37 = .ok (.getfield 59, 3) := by decide +kernel
theorem dX0_may_40 : decode cX0_may 40 = .ok (.iload_n 1, 1) := by decide +kernel
theorem dX0_may_41 : decode cX0_may 41 = .ok (.iaload, 1) := by decide +kernel
theorem dX0_may_42 : decode cX0_may 42 = .ok (.iconst (-1), 1) := by decide +kernel
theorem dX0_may_43 : decode cX0_may 43 = .ok (.ixor, 1) := by decide +kernel
theorem dX0_may_44 : decode cX0_may 44 = .ok (.iand, 1) := by decide +kernel
theorem dX0_may_45 : decode cX0_may 45 = .ok (.ifCond .ne 16, 3) := by decide +kernel
theorem dX0_may_48 : decode cX0_may 48 = .ok (.aload_n 0, 1) := by decide +kernel
theorem dX0_may_49 : decode cX0_may 49 = .ok (.iload_n 1, 1) := by decide +kernel
theorem dX0_may_50 : decode cX0_may 50 = .ok (.iload_n 2, 1) := by decide +kernel
theorem dX0_may_51 : decode cX0_may 51 = .ok (.invokevirtual 65, 3) := by decide +kernel
theorem dX0_may_54 : decode cX0_may 54 = .ok (.ifCond .ne 7, 3) := by decide +kernel
theorem dX0_may_57 : decode cX0_may 57 = .ok (.iconst 1, 1) := by decide +kernel
theorem dX0_may_58 : decode cX0_may 58 = .ok (.goto 4, 3) := by decide +kernel
theorem dX0_may_61 : decode cX0_may 61 = .ok (.iconst 0, 1) := by decide +kernel
theorem dX0_may_62 : decode cX0_may 62 = .ok (.ireturn, 1) := by decide +kernel
theorem dX0_passNight_0 : decode cX0_passNight 0 = .ok (.iconst 0, 1) := by decide +kernel
theorem dX0_passNight_1 : decode cX0_passNight 1 = .ok (.istore_n 1, 1) := by decide +kernel
theorem dX0_passNight_2 : decode cX0_passNight 2 = .ok (.iload_n 1, 1) := by decide +kernel
theorem dX0_passNight_3 : decode cX0_passNight 3 = .ok (.aload_n 0, 1) := by decide +kernel
theorem dX0_passNight_4 : decode cX0_passNight 4 = .ok (.getfield 12, 3) := by decide +kernel
theorem dX0_passNight_7 : decode cX0_passNight 7 = .ok (.getfield 41, 3) := by decide +kernel
theorem dX0_passNight_10 : decode cX0_passNight 10 = .ok (.if_icmp .ge 30, 3) := by decide +kernel
theorem dX0_passNight_13 : decode cX0_passNight 13 = .ok (.aload_n 0, 1) := by decide +kernel
theorem dX0_passNight_14 : decode cX0_passNight 14 = .ok (.getfield 21, 3) := by decide +kernel
theorem dX0_passNight_17 : decode cX0_passNight 17 = .ok (.getfield 71, 3) := by decide +kernel
theorem dX0_passNight_20 : decode cX0_passNight 20 = .ok (.iload_n 1, 1) := by decide +kernel
theorem dX0_passNight_21 : decode cX0_passNight 21 = .ok (.iaload, 1) := by decide +kernel
theorem dX0_passNight_22 : decode cX0_passNight 22 = .ok (.istore_n 2, 1) := by decide +kernel
theorem dX0_passNight_23 : decode cX0_passNight 23 = .ok (.iload_n 2, 1) := by decide +kernel
theorem dX0_passNight_24 : decode cX0_passNight 24 = .ok (.iconst (-1), 1) := by decide +kernel
theorem dX0_passNight_25 : decode cX0_passNight 25 = .ok (.if_icmp .eq 9, 3) := by decide +kernel
theorem dX0_passNight_28 : decode cX0_passNight 28 = .ok (.aload_n 0, 1) := by decide +kernel
theorem dX0_passNight_29 : decode cX0_passNight 29 = .ok (.iload_n 1, 1) := by decide +kernel
theorem dX0_passNight_30 : decode cX0_passNight 30 = .ok (.iload_n 2, 1) := by decide +kernel
theorem dX0_passNight_31 : decode cX0_passNight 31 = .ok (.invokevirtual 80, 3) := by decide +kernel
theorem dX0_passNight_34 : decode cX0_passNight 34 = .ok (.iinc 1 1, 3) := by decide +kernel
theorem dX0_passNight_37 : decode cX0_passNight 37 = .ok (.goto (-35), 3) := by decide +kernel
theorem dX0_passNight_40 : decode cX0_passNight 40 = .ok (.aload_n 0, 1) := by decide +kernel
theorem dX0_passNight_41 : decode cX0_passNight 41 = .ok (.getfield 21, 3) := by decide +kernel
theorem dX0_passNight_44 : decode cX0_passNight 44 = .ok (.dup, 1) := by decide +kernel
theorem dX0_passNight_45 : decode cX0_passNight 45 = .ok (.getfield 84, 3) := by decide +kernel
theorem dX0_passNight_48 : decode cX0_passNight 48 = .ok (.iconst 1, 1) := by decide +kernel
theorem dX0_passNight_49 : decode cX0_passNight 49 = .ok (.iadd, 1) := by decide +kernel
theorem dX0_passNight_50 : decode cX0_passNight 50 = .ok (.putfield 84, 3) := by decide +kernel
theorem dX0_passNight_53 : decode cX0_passNight 53 = .ok (.return_, 1) := by decide +kernel
theorem dX0_stepTo_0 : decode cX0_stepTo 0 = .ok (.bipush 6, 2) := by decide +kernel
theorem dX0_stepTo_2 : decode cX0_stepTo 2 = .ok (.istore_n 3, 1) := by decide +kernel
theorem dX0_stepTo_3 : decode cX0_stepTo 3 = .ok (.iconst 0, 1) := by decide +kernel
theorem dX0_stepTo_4 : decode cX0_stepTo 4 = .ok (.istore 4, 2) := by decide +kernel
theorem dX0_stepTo_6 : decode cX0_stepTo 6 = .ok (.iload 4, 2) := by decide +kernel
theorem dX0_stepTo_8 : decode cX0_stepTo 8 = .ok (.aload_n 0, 1) := by decide +kernel
theorem dX0_stepTo_9 : decode cX0_stepTo 9 = .ok (.getfield 12, 3) := by decide +kernel
theorem dX0_stepTo_12 : decode cX0_stepTo 12 = .ok (.getfield 41, 3) := by decide +kernel
theorem dX0_stepTo_15 : decode cX0_stepTo 15 = .ok (.if_icmp .ge 30, 3) := by decide +kernel
theorem dX0_stepTo_18 : decode cX0_stepTo 18 = .ok (.iload_n 2, 1) := by decide +kernel
theorem dX0_stepTo_19 : decode cX0_stepTo 19 = .ok (.iload 4, 2) := by decide +kernel
theorem dX0_stepTo_21 : decode cX0_stepTo 21 = .ok (.invokestatic 47, 3) := by decide +kernel
theorem dX0_stepTo_24 : decode cX0_stepTo 24 = .ok (.ifCond .eq 15, 3) := by decide +kernel
theorem dX0_stepTo_27 : decode cX0_stepTo 27 = .ok (.iload_n 3, 1) := by decide +kernel
theorem dX0_stepTo_28 : decode cX0_stepTo 28 = .ok (.aload_n 0, 1) := by decide +kernel
theorem dX0_stepTo_29 : decode cX0_stepTo 29 = .ok (.iload_n 1, 1) := by decide +kernel
theorem dX0_stepTo_30 : decode cX0_stepTo 30 = .ok (.iload 4, 2) := by decide +kernel
theorem dX0_stepTo_32 : decode cX0_stepTo 32 = .ok (.invokevirtual 109, 3) := by decide +kernel
theorem dX0_stepTo_35 : decode cX0_stepTo 35 = .ok (.invokestatic 112, 3) := by decide +kernel
theorem dX0_stepTo_38 : decode cX0_stepTo 38 = .ok (.istore_n 3, 1) := by decide +kernel
theorem dX0_stepTo_39 : decode cX0_stepTo 39 = .ok (.iinc 4 1, 3) := by decide +kernel
theorem dX0_stepTo_42 : decode cX0_stepTo 42 = .ok (.goto (-36), 3) := by decide +kernel
theorem dX0_stepTo_45 : decode cX0_stepTo 45 = .ok (.iload_n 3, 1) := by decide +kernel
theorem dX0_stepTo_46 : decode cX0_stepTo 46 = .ok (.ireturn, 1) := by decide +kernel
theorem dX0_unlikeParts_0 : decode cX0_unlikeParts 0 = .ok (.aload_n 0, 1) := by decide +kernel
theorem dX0_unlikeParts_1 : decode cX0_unlikeParts 1 = .ok (.getfield 21, 3) := by decide +kernel
theorem dX0_unlikeParts_4 : decode cX0_unlikeParts 4 = .ok (.getfield 51, 3) := by decide +kernel
theorem dX0_unlikeParts_7 : decode cX0_unlikeParts 7 = .ok (.iload_n 1, 1) := by decide +kernel
theorem dX0_unlikeParts_8 : decode cX0_unlikeParts 8 = .ok (.iaload, 1) := by decide +kernel
theorem dX0_unlikeParts_9 : decode cX0_unlikeParts 9 = .ok (.aload_n 0, 1) := by decide +kernel
theorem dX0_unlikeParts_10 : decode cX0_unlikeParts 10 = .ok (.getfield 21, 3) := by decide +kernel
theorem dX0_unlikeParts_13 : decode cX0_unlikeParts 13 = .ok (.getfield 51, 3) := by decide +kernel
theorem dX0_unlikeParts_16 : decode cX0_unlikeParts 16 = .ok (.iload_n 2, 1) := by decide +kernel
theorem dX0_unlikeParts_17 : decode cX0_unlikeParts 17 = .ok (.iaload, 1) := by decide +kernel
theorem dX0_unlikeParts_18 : decode cX0_unlikeParts 18 = .ok (.ixor, 1) := by decide +kernel
theorem dX0_unlikeParts_19 : decode cX0_unlikeParts 19 = .ok (.invokestatic 74, 3) := by decide +kernel
theorem dX0_unlikeParts_22 : decode cX0_unlikeParts 22 = .ok (.ireturn, 1) := by decide +kernel
theorem dX0_whoCan_0 : decode cX0_whoCan 0 = .ok (.iconst 0, 1) := by decide +kernel
theorem dX0_whoCan_1 : decode cX0_whoCan 1 = .ok (.istore_n 2, 1) := by decide +kernel
theorem dX0_whoCan_2 : decode cX0_whoCan 2 = .ok (.iconst 0, 1) := by decide +kernel
theorem dX0_whoCan_3 : decode cX0_whoCan 3 = .ok (.istore_n 3, 1) := by decide +kernel
theorem dX0_whoCan_4 : decode cX0_whoCan 4 = .ok (.iload_n 3, 1) := by decide +kernel
theorem dX0_whoCan_5 : decode cX0_whoCan 5 = .ok (.aload_n 0, 1) := by decide +kernel
theorem dX0_whoCan_6 : decode cX0_whoCan 6 = .ok (.getfield 12, 3) := by decide +kernel
theorem dX0_whoCan_9 : decode cX0_whoCan 9 = .ok (.getfield 41, 3) := by decide +kernel
theorem dX0_whoCan_12 : decode cX0_whoCan 12 = .ok (.if_icmp .ge 31, 3) := by decide +kernel
theorem dX0_whoCan_15 : decode cX0_whoCan 15 = .ok (.aload_n 0, 1) := by decide +kernel
theorem dX0_whoCan_16 : decode cX0_whoCan 16 = .ok (.getfield 21, 3) := by decide +kernel
theorem dX0_whoCan_19 : decode cX0_whoCan 19 = .ok (.getfield 59, 3) := by decide +kernel
theorem dX0_whoCan_22 : decode cX0_whoCan 22 = .ok (.iload_n 3, 1) := by decide +kernel
theorem dX0_whoCan_23 : decode cX0_whoCan 23 = .ok (.iaload, 1) := by decide +kernel
theorem dX0_whoCan_24 : decode cX0_whoCan 24 = .ok (.iload_n 1, 1) := by decide +kernel
theorem dX0_whoCan_25 : decode cX0_whoCan 25 = .ok (.invokestatic 47, 3) := by decide +kernel
theorem dX0_whoCan_28 : decode cX0_whoCan 28 = .ok (.ifCond .eq 9, 3) := by decide +kernel
theorem dX0_whoCan_31 : decode cX0_whoCan 31 = .ok (.iload_n 2, 1) := by decide +kernel
theorem dX0_whoCan_32 : decode cX0_whoCan 32 = .ok (.iconst 1, 1) := by decide +kernel
theorem dX0_whoCan_33 : decode cX0_whoCan 33 = .ok (.iload_n 3, 1) := by decide +kernel
theorem dX0_whoCan_34 : decode cX0_whoCan 34 = .ok (.ishl, 1) := by decide +kernel
theorem dX0_whoCan_35 : decode cX0_whoCan 35 = .ok (.ior, 1) := by decide +kernel
theorem dX0_whoCan_36 : decode cX0_whoCan 36 = .ok (.istore_n 2, 1) := by decide +kernel
theorem dX0_whoCan_37 : decode cX0_whoCan 37 = .ok (.iinc 3 1, 3) := by decide +kernel
theorem dX0_whoCan_40 : decode cX0_whoCan 40 = .ok (.goto (-36), 3) := by decide +kernel
theorem dX0_whoCan_43 : decode cX0_whoCan 43 = .ok (.iload_n 2, 1) := by decide +kernel
theorem dX0_whoCan_44 : decode cX0_whoCan 44 = .ok (.ireturn, 1) := by decide +kernel
theorem dX0_whoIsInClass_0 : decode cX0_whoIsInClass 0 = .ok (.iconst 0, 1) := by decide +kernel
theorem dX0_whoIsInClass_1 : decode cX0_whoIsInClass 1 = .ok (.istore_n 1, 1) := by decide +kernel
theorem dX0_whoIsInClass_2 : decode cX0_whoIsInClass 2 = .ok (.iconst 0, 1) := by decide +kernel
theorem dX0_whoIsInClass_3 : decode cX0_whoIsInClass 3 = .ok (.istore_n 2, 1) := by decide +kernel
theorem dX0_whoIsInClass_4 : decode cX0_whoIsInClass 4 = .ok (.iload_n 2, 1) := by decide +kernel
theorem dX0_whoIsInClass_5 : decode cX0_whoIsInClass 5 = .ok (.aload_n 0, 1) := by decide +kernel
theorem dX0_whoIsInClass_6 : decode cX0_whoIsInClass 6 = .ok (.getfield 12, 3) := by decide +kernel
theorem dX0_whoIsInClass_9 : decode cX0_whoIsInClass 9 = .ok (.getfield 41, 3) := by decide +kernel
theorem dX0_whoIsInClass_12 : decode cX0_whoIsInClass 12 = .ok (.if_icmp .ge 28, 3) := by decide +kernel
theorem dX0_whoIsInClass_15 : decode cX0_whoIsInClass 15 = .ok (.aload_n 0, 1) := by decide +kernel
theorem dX0_whoIsInClass_16 : decode cX0_whoIsInClass 16 = .ok (.getfield 21, 3) := by decide +kernel
theorem dX0_whoIsInClass_19 : decode cX0_whoIsInClass 19 = .ok (.getfield 71, 3) := by decide +kernel
theorem dX0_whoIsInClass_22 : decode cX0_whoIsInClass 22 = .ok (.iload_n 2, 1) := by decide +kernel
theorem dX0_whoIsInClass_23 : decode cX0_whoIsInClass 23 = .ok (.iaload, 1) := by decide +kernel
theorem dX0_whoIsInClass_24 : decode cX0_whoIsInClass 24 = .ok (.iconst (-1), 1) := by decide +kernel
theorem dX0_whoIsInClass_25 : decode cX0_whoIsInClass 25 = .ok (.if_icmp .eq 9, 3) := by decide +kernel
theorem dX0_whoIsInClass_28 : decode cX0_whoIsInClass 28 = .ok (.iload_n 1, 1) := by decide +kernel
theorem dX0_whoIsInClass_29 : decode cX0_whoIsInClass 29 = .ok (.iconst 1, 1) := by decide +kernel
theorem dX0_whoIsInClass_30 : decode cX0_whoIsInClass 30 = .ok (.iload_n 2, 1) := by decide +kernel
theorem dX0_whoIsInClass_31 : decode cX0_whoIsInClass 31 = .ok (.ishl, 1) := by decide +kernel
theorem dX0_whoIsInClass_32 : decode cX0_whoIsInClass 32 = .ok (.ior, 1) := by decide +kernel
theorem dX0_whoIsInClass_33 : decode cX0_whoIsInClass 33 = .ok (.istore_n 1, 1) := by decide +kernel
theorem dX0_whoIsInClass_34 : decode cX0_whoIsInClass 34 = .ok (.iinc 2 1, 3) := by decide +kernel
theorem dX0_whoIsInClass_37 : decode cX0_whoIsInClass 37 = .ok (.goto (-33), 3) := by decide +kernel
theorem dX0_whoIsInClass_40 : decode cX0_whoIsInClass 40 = .ok (.iload_n 1, 1) := by decide +kernel
theorem dX0_whoIsInClass_41 : decode cX0_whoIsInClass 41 = .ok (.ireturn, 1) := by decide +kernel
theorem dX10_ask_0 : decode cX10_ask 0 = .ok (.aload_n 0, 1) := by decide +kernel
theorem dX10_ask_1 : decode cX10_ask 1 = .ok (.getfield 56, 3) := by decide +kernel
theorem dX10_ask_4 : decode cX10_ask 4 = .ok (.invokevirtual 262, 3) := by decide +kernel
theorem dX10_ask_7 : decode cX10_ask 7 = .ok (.ireturn, 1) := by decide +kernel
theorem dX10_back_0 : decode cX10_back 0 = .ok (.iload_n 1, 1) := by decide +kernel
theorem dX10_back_1 : decode cX10_back 1 = .ok (.ifCond .lt 8, 3) := by decide +kernel
theorem dX10_back_4 : decode cX10_back 4 = .ok (.iload_n 1, 1) := by decide +kernel
theorem dX10_back_5 : decode cX10_back 5 = .ok (.iconst 2, 1) := by decide +kernel
theorem dX10_back_6 : decode cX10_back 6 = .ok (.if_icmp .lt 5, 3) := by decide +kernel
theorem dX10_back_9 : decode cX10_back 9 = .ok (.iconst (-1), 1) := by decide +kernel
theorem dX10_back_10 : decode cX10_back 10 = .ok (.ireturn, 1) := by decide +kernel
theorem dX10_back_11 : decode cX10_back 11 = .ok (.aload_n 0, 1) := by decide +kernel
theorem dX10_back_12 : decode cX10_back 12 = .ok (.getfield 32, 3) := by decide +kernel
theorem dX10_back_15 : decode cX10_back 15 = .ok (.iload_n 1, 1) := by decide +kernel
theorem dX10_back_16 : decode cX10_back 16 = .ok (.aaload, 1) := by decide +kernel
theorem dX10_back_17 : decode cX10_back 17 = .ok (.getfield 94, 3) := by decide +kernel
theorem dX10_back_20 : decode cX10_back 20 = .ok (.ifCond .ne 6, 3) := by decide +kernel
theorem dX10_back_23 : decode cX10_back 23 = .ok (.bipush (-2), 2) := by decide +kernel
theorem dX10_back_25 : decode cX10_back 25 = .ok (.ireturn, 1) := by decide +kernel
theorem dX10_back_26 : decode cX10_back 26 = .ok (.aload_n 0, 1) := by decide +kernel
theorem dX10_back_27 : decode cX10_back 27 = .ok (.getfield 32, 3) := by decide +kernel
theorem dX10_back_30 : decode cX10_back 30 = .ok (.iload_n 1, 1) := by decide +kernel
theorem dX10_back_31 : decode cX10_back 31 = .ok (.aaload, 1) := by decide +kernel
theorem dX10_back_32 : decode cX10_back 32 = .ok (.aload_n 0, 1) := by decide +kernel
theorem dX10_back_33 : decode cX10_back 33 = .ok (.getfield 19, 3) := by decide +kernel
theorem dX10_back_36 : decode cX10_back 36 = .ok (.getfield 138, 3) := by decide +kernel
theorem dX10_back_39 : decode cX10_back 39 = .ok (.aload_n 0, 1) := by decide +kernel
theorem dX10_back_40 : decode cX10_back 40 = .ok (.getfield 26, 3) := by decide +kernel
theorem dX10_back_43 : decode cX10_back 43 = .ok (.invokevirtual 273, 3) := by decide +kernel
theorem dX10_back_46 : decode cX10_back 46 = .ok (.aload_n 0, 1) := by decide +kernel
theorem dX10_back_47 : decode cX10_back 47 = .ok (.getfield 19, 3) := by decide +kernel
theorem dX10_back_50 : decode cX10_back 50 = .ok (.getfield 138, 3) := by decide +kernel
theorem dX10_back_53 : decode cX10_back 53 = .ok (.getfield 176, 3) := by decide +kernel
theorem dX10_back_56 : decode cX10_back 56 = .ok (.ireturn, 1) := by decide +kernel
theorem dX10_best_0 : decode cX10_best 0 = .ok (.aload_n 0, 1) := by decide +kernel
theorem dX10_best_1 : decode cX10_best 1 = .ok (.getfield 19, 3) := by decide +kernel
theorem dX10_best_4 : decode cX10_best 4 = .ok (.iload_n 1, 1) := by decide +kernel
theorem dX10_best_5 : decode cX10_best 5 = .ok (.invokevirtual 129, 3) := by decide +kernel
theorem dX10_best_8 : decode cX10_best 8 = .ok (.ifCond .eq 22, 3) := by decide +kernel
theorem dX10_best_11 : decode cX10_best 11 = .ok (.iload_n 2, 1) := by decide +kernel
theorem dX10_best_12 : decode cX10_best 12 = .ok (.ifCond .lt 18, 3) := by decide +kernel
theorem dX10_best_15 : decode cX10_best 15 = .ok (.iload_n 2, 1) := by decide +kernel
theorem dX10_best_16 : decode cX10_best 16 = .ok (.bipush 99, 2) := by decide +kernel
theorem dX10_best_18 : decode cX10_best 18 = .ok (.if_icmp .gt 12, 3) := by decide +kernel
theorem dX10_best_21 : decode cX10_best 21 = .ok (.iload_n 3, 1) := by decide +kernel
theorem dX10_best_22 : decode cX10_best 22 = .ok (.ifCond .lt 8, 3) := by decide +kernel
theorem dX10_best_25 : decode cX10_best 25 = .ok (.iload_n 3, 1) := by decide +kernel
theorem dX10_best_26 : decode cX10_best 26 = .ok (.iconst 1, 1) := by decide +kernel
theorem dX10_best_27 : decode cX10_best 27 = .ok (.if_icmp .le 5, 3) := by decide +kernel
theorem dX10_best_30 : decode cX10_best 30 = .ok (.iconst (-1), 1) := by decide +kernel
theorem dX10_best_31 : decode cX10_best 31 = .ok (.ireturn, 1) := by decide +kernel
theorem dX10_best_32 : decode cX10_best 32 = .ok (.aload_n 0, 1) := by decide +kernel
theorem dX10_best_33 : decode cX10_best 33 = .ok (.getfield 42, 3) := by decide +kernel
theorem dX10_best_36 : decode cX10_best 36 = .ok (.iload_n 1, 1) := by decide +kernel
theorem dX10_best_37 : decode cX10_best 37 = .ok (.iload_n 2, 1) := by decide +kernel
theorem dX10_best_38 : decode cX10_best 38 = .ok (.invokevirtual 230, 3) := by decide +kernel
theorem dX10_best_41 : decode cX10_best 41 = .ok (.istore 4, 2) := by decide +kernel
theorem dX10_best_43 : decode cX10_best 43 = .ok (.iload_n 3, 1) := by decide +kernel
theorem dX10_best_44 : decode cX10_best 44 = .ok (.ifCond .ne 8, 3) := by decide +kernel
theorem dX10_best_47 : decode cX10_best 47 = .ok (.iload 4, 2) := by decide +kernel
theorem dX10_best_49 : decode cX10_best 49 = .ok (.goto 12, 3) := by decide +kernel
theorem dX10_best_52 : decode cX10_best 52 = .ok (.aload_n 0, 1) := by decide +kernel
theorem dX10_best_53 : decode cX10_best 53 = .ok (.getfield 42, 3) := by decide +kernel
theorem dX10_best_56 : decode cX10_best 56 = .ok (.iload 4, 2) := by decide +kernel
theorem dX10_best_58 : decode cX10_best 58 = .ok (.invokevirtual 221, 3) := by decide +kernel
theorem dX10_best_61 : decode cX10_best 61 = .ok (.ireturn, 1) := by decide +kernel
theorem dX10_cast_0 : decode cX10_cast 0 = .ok (.aload_n 0, 1) := by decide +kernel
theorem dX10_cast_1 : decode cX10_cast 1 = .ok (.getfield 19, 3) := by decide +kernel
theorem dX10_cast_4 : decode cX10_cast 4 = .ok (.iload_n 1, 1) := by decide +kernel
theorem dX10_cast_5 : decode cX10_cast 5 = .ok (.invokevirtual 129, 3) := by decide +kernel
theorem dX10_cast_8 : decode cX10_cast 8 = .ok (.ifCond .ne 5, 3) := by decide +kernel
theorem dX10_cast_11 : decode cX10_cast 11 = .ok (.iconst (-1), 1) := by decide +kernel
theorem dX10_cast_12 : decode cX10_cast 12 = .ok (.ireturn, 1) := by decide +kernel
theorem dX10_cast_13 : decode cX10_cast 13 = .ok (.iload_n 2, 1) := by decide +kernel
theorem dX10_cast_14 : decode cX10_cast 14 = .ok (.tableswitch 153 0 7 #[46, 59, 72, 85, 98, 115, 128, 137], 46) := by decide +kernel
theorem dX10_cast_60 : decode cX10_cast 60 = .ok (.aload_n 0, 1) := by decide +kernel
theorem dX10_cast_61 : decode cX10_cast 61 = .ok (.getfield 19, 3) := by decide +kernel
theorem dX10_cast_64 : decode cX10_cast 64 = .ok (.getfield 98, 3) := by decide +kernel
theorem dX10_cast_67 : decode cX10_cast 67 = .ok (.getfield 132, 3) := by decide +kernel
theorem dX10_cast_70 : decode cX10_cast 70 = .ok (.iload_n 1, 1) := by decide +kernel
theorem dX10_cast_71 : decode cX10_cast 71 = .ok (.iaload, 1) := by decide +kernel
theorem dX10_cast_72 : decode cX10_cast 72 = .ok (.ireturn, 1) := by decide +kernel
theorem dX10_cast_73 : decode cX10_cast 73 = .ok (.aload_n 0, 1) := by decide +kernel
theorem dX10_cast_74 : decode cX10_cast 74 = .ok (.getfield 19, 3) := by decide +kernel
theorem dX10_cast_77 : decode cX10_cast 77 = .ok (.getfield 98, 3) := by decide +kernel
theorem dX10_cast_80 : decode cX10_cast 80 = .ok (.getfield 135, 3) := by decide +kernel
theorem dX10_cast_83 : decode cX10_cast 83 = .ok (.iload_n 1, 1) := by decide +kernel
theorem dX10_cast_84 : decode cX10_cast 84 = .ok (.iaload, 1) := by decide +kernel
theorem dX10_cast_85 : decode cX10_cast 85 = .ok (.ireturn, 1) := by decide +kernel
theorem dX10_cast_86 : decode cX10_cast 86 = .ok (.aload_n 0, 1) := by decide +kernel
theorem dX10_cast_87 : decode cX10_cast 87 = .ok (.getfield 19, 3) := by decide +kernel
theorem dX10_cast_90 : decode cX10_cast 90 = .ok (.getfield 138, 3) := by decide +kernel
theorem dX10_cast_93 : decode cX10_cast 93 = .ok (.getfield 142, 3) := by decide +kernel
theorem dX10_cast_96 : decode cX10_cast 96 = .ok (.iload_n 1, 1) := by decide +kernel
theorem dX10_cast_97 : decode cX10_cast 97 = .ok (.iaload, 1) := by decide +kernel
theorem dX10_cast_98 : decode cX10_cast 98 = .ok (.ireturn, 1) := by decide +kernel
theorem dX10_cast_99 : decode cX10_cast 99 = .ok (.aload_n 0, 1) := by decide +kernel
theorem dX10_cast_100 : decode cX10_cast 100 = .ok (.getfield 19, 3) := by decide +kernel
theorem dX10_cast_103 : decode cX10_cast 103 = .ok (.getfield 138, 3) := by decide +kernel
theorem dX10_cast_106 : decode cX10_cast 106 = .ok (.getfield 147, 3) := by decide +kernel
theorem dX10_cast_109 : decode cX10_cast 109 = .ok (.iload_n 1, 1) := by decide +kernel
theorem dX10_cast_110 : decode cX10_cast 110 = .ok (.iaload, 1) := by decide +kernel
theorem dX10_cast_111 : decode cX10_cast 111 = .ok (.ireturn, 1) := by decide +kernel
theorem dX10_cast_112 : decode cX10_cast 112 = .ok (.aload_n 0, 1) := by decide +kernel
theorem dX10_cast_113 : decode cX10_cast 113 = .ok (.getfield 19, 3) := by decide +kernel
theorem dX10_cast_116 : decode cX10_cast 116 = .ok (.iload_n 1, 1) := by decide +kernel
theorem dX10_cast_117 : decode cX10_cast 117 = .ok (.invokevirtual 150, 3) := by decide +kernel
theorem dX10_cast_120 : decode cX10_cast 120 = .ok (.ifCond .eq 7, 3) := by decide +kernel
theorem dX10_cast_123 : decode cX10_cast 123 = .ok (.iconst 1, 1) := by decide +kernel
theorem dX10_cast_124 : decode cX10_cast 124 = .ok (.goto 4, 3) := by decide +kernel
theorem dX10_cast_127 : decode cX10_cast 127 = .ok (.iconst 0, 1) := by decide +kernel
theorem dX10_cast_128 : decode cX10_cast 128 = .ok (.ireturn, 1) := by decide +kernel
theorem dX10_cast_129 : decode cX10_cast 129 = .ok (.aload_n 0, 1) := by decide +kernel
theorem dX10_cast_130 : decode cX10_cast 130 = .ok (.getfield 19, 3) := by decide +kernel
theorem dX10_cast_133 : decode cX10_cast 133 = .ok (.getfield 138, 3) := by decide +kernel
theorem dX10_cast_136 : decode cX10_cast 136 = .ok (.getfield 153, 3) := by decide +kernel
theorem dX10_cast_139 : decode cX10_cast 139 = .ok (.iload_n 1, 1) := by decide +kernel
theorem dX10_cast_140 : decode cX10_cast 140 = .ok (.iaload, 1) := by decide +kernel
theorem dX10_cast_141 : decode cX10_cast 141 = .ok (.ireturn, 1) := by decide +kernel
theorem dX10_cast_142 : decode cX10_cast 142 = .ok (.aload_n 0, 1) := by decide +kernel
theorem dX10_cast_143 : decode cX10_cast 143 = .ok (.getfield 19, 3) := by decide +kernel
theorem dX10_cast_146 : decode cX10_cast 146 = .ok (.iload_n 1, 1) := by decide +kernel
theorem dX10_cast_147 : decode cX10_cast 147 = .ok (.invokevirtual 156, 3) := by decide +kernel
theorem dX10_cast_150 : decode cX10_cast 150 = .ok (.ireturn, 1) := by decide +kernel
theorem dX10_cast_151 : decode cX10_cast 151 = .ok (.aload_n 0, 1) := by decide +kernel
theorem dX10_cast_152 : decode cX10_cast 152 = .ok (.getfield 19, 3) := by decide +kernel
theorem dX10_cast_155 : decode cX10_cast 155 = .ok (.getfield 138, 3) := by decide +kernel
theorem dX10_cast_158 : decode cX10_cast 158 = .ok (.getfield 159, 3) := by decide +kernel
theorem dX10_cast_161 : decode cX10_cast 161 = .ok (.iload_n 1, 1) := by decide +kernel
theorem dX10_cast_162 : decode cX10_cast 162 = .ok (.iaload, 1) := by decide +kernel
theorem dX10_cast_163 : decode cX10_cast 163 = .ok (.invokestatic 162, 3) := by decide +kernel
theorem dX10_cast_166 : decode cX10_cast 166 = .ok (.ireturn, 1) := by decide +kernel
theorem dX10_cast_167 : decode cX10_cast 167 = .ok (.iconst (-1), 1) := by decide +kernel
theorem dX10_cast_168 : decode cX10_cast 168 = .ok (.ireturn, 1) := by decide +kernel
theorem dX10_clear_0 : decode cX10_clear 0 = .ok (.aload_n 0, 1) := by decide +kernel
theorem dX10_clear_1 : decode cX10_clear 1 = .ok (.getfield 10, 3) := by decide +kernel
theorem dX10_clear_4 : decode cX10_clear 4 = .ok (.getfield 67, 3) := by decide +kernel
theorem dX10_clear_7 : decode cX10_clear 7 = .ok (.istore_n 1, 1) := by decide +kernel
theorem dX10_clear_8 : decode cX10_clear 8 = .ok (.aload_n 0, 1) := by decide +kernel
theorem dX10_clear_9 : decode cX10_clear 9 = .ok (.getfield 10, 3) := by decide +kernel
theorem dX10_clear_12 : decode cX10_clear 12 = .ok (.iconst 0, 1) := by decide +kernel
theorem dX10_clear_13 : decode cX10_clear 13 = .ok (.putfield 67, 3) := by decide +kernel
theorem dX10_clear_16 : decode cX10_clear 16 = .ok (.iload_n 1, 1) := by decide +kernel
theorem dX10_clear_17 : decode cX10_clear 17 = .ok (.ireturn, 1) := by decide +kernel
theorem dX10_commonDivisor_0 : decode cX10_commonDivisor 0 = .ok (.iload_n 1, 1) := by decide +kernel
theorem dX10_commonDivisor_1 : decode cX10_commonDivisor 1 = .ok (.istore_n 2, 1) := by decide +kernel
theorem dX10_commonDivisor_2 : decode cX10_commonDivisor 2 = .ok (.iload_n 0, 1) := by decide +kernel
theorem dX10_commonDivisor_3 : decode cX10_commonDivisor 3 = .ok (.istore_n 3, 1) := by decide +kernel
theorem dX10_commonDivisor_4 : decode cX10_commonDivisor 4 = .ok (.iconst 0, 1) := by decide +kernel
theorem dX10_commonDivisor_5 : decode cX10_commonDivisor 5 = .ok (.istore 4, 2) := by decide +kernel
theorem dX10_commonDivisor_7 : decode cX10_commonDivisor 7 = .ok (.iload 4, 2) := by decide +kernel
theorem dX10_commonDivisor_9 : decode cX10_commonDivisor 9 = .ok (.bipush 64, 2) := by decide +kernel
theorem dX10_commonDivisor_11 : decode cX10_commonDivisor 11 = .ok (.if_icmp .ge 23, 3) := by decide +kernel
theorem dX10_commonDivisor_14 : decode cX10_commonDivisor 14 = .ok (.iload_n 3, 1) := by decide +kernel
theorem dX10_commonDivisor_15 : decode cX10_commonDivisor 15 = .ok (.ifCond .eq 19, 3) := by decide +kernel
theorem dX10_commonDivisor_18 : decode cX10_commonDivisor 18 = .ok (.iload_n 2, 1) := by decide +kernel
theorem dX10_commonDivisor_19 : decode cX10_commonDivisor 19 = .ok (.iload_n 3, 1) := by decide +kernel
theorem dX10_commonDivisor_20 : decode cX10_commonDivisor 20 = .ok (.irem, 1) := by decide +kernel
theorem dX10_commonDivisor_21 : decode cX10_commonDivisor 21 = .ok (.istore 5, 2) := by decide +kernel
theorem dX10_commonDivisor_23 : decode cX10_commonDivisor 23 = .ok (.iload_n 3, 1) := by decide +kernel
theorem dX10_commonDivisor_24 : decode cX10_commonDivisor 24 = .ok (.istore_n 2, 1) := by decide +kernel
theorem dX10_commonDivisor_25 : decode cX10_commonDivisor 25 = .ok (.iload 5, 2) := by decide +kernel
theorem dX10_commonDivisor_27 : decode cX10_commonDivisor 27 = .ok (.istore_n 3, 1) := by decide +kernel
theorem dX10_commonDivisor_28 : decode cX10_commonDivisor 28 = .ok (.iinc 4 1, 3) := by decide +kernel
theorem dX10_commonDivisor_31 : decode cX10_commonDivisor 31 = .ok (.goto (-24), 3) := by decide +kernel
theorem dX10_commonDivisor_34 : decode cX10_commonDivisor 34 = .ok (.iload_n 2, 1) := by decide +kernel
theorem dX10_commonDivisor_35 : decode cX10_commonDivisor 35 = .ok (.iconst 1, 1) := by decide +kernel
theorem dX10_commonDivisor_36 : decode cX10_commonDivisor 36 = .ok (.invokestatic 280, 3) := by decide +kernel
theorem dX10_commonDivisor_39 : decode cX10_commonDivisor 39 = .ok (.ireturn, 1) := by decide +kernel
theorem dX10_count_0 : decode cX10_count 0 = .ok (.iload_n 1, 1) := by decide +kernel
theorem dX10_count_1 : decode cX10_count 1 = .ok (.tableswitch 81 0 4 #[35, 46, 57, 65, 73], 35) := by decide +kernel
theorem dX10_count_36 : decode cX10_count 36 = .ok (.aload_n 0, 1) := by decide +kernel
theorem dX10_count_37 : decode cX10_count 37 = .ok (.getfield 19, 3) := by decide +kernel
theorem dX10_count_40 : decode cX10_count 40 = .ok (.getfield 98, 3) := by decide +kernel
theorem dX10_count_43 : decode cX10_count 43 = .ok (.getfield 101, 3) := by decide +kernel
theorem dX10_count_46 : decode cX10_count 46 = .ok (.ireturn, 1) := by decide +kernel
theorem dX10_count_47 : decode cX10_count 47 = .ok (.aload_n 0, 1) := by decide +kernel
theorem dX10_count_48 : decode cX10_count 48 = .ok (.getfield 19, 3) := by decide +kernel
theorem dX10_count_51 : decode cX10_count 51 = .ok (.getfield 98, 3) := by decide +kernel
theorem dX10_count_54 : decode cX10_count 54 = .ok (.getfield 106, 3) := by decide +kernel
theorem dX10_count_57 : decode cX10_count 57 = .ok (.ireturn, 1) := by decide +kernel
theorem dX10_count_58 : decode cX10_count 58 = .ok (.aload_n 0, 1) := by decide +kernel
theorem dX10_count_59 : decode cX10_count 59 = .ok (.getfield 56, 3) := by decide +kernel
theorem dX10_count_62 : decode cX10_count 62 = .ok (.getfield 93, 3) := by decide +kernel
theorem dX10_count_65 : decode cX10_count 65 = .ok (.ireturn, 1) := by decide +kernel
theorem dX10_count_66 : decode cX10_count 66 = .ok (.aload_n 0, 1) := by decide +kernel
theorem dX10_count_67 : decode cX10_count 67 = .ok (.getfield 26, 3) := by decide +kernel
theorem dX10_count_70 : decode cX10_count 70 = .ok (.getfield 90, 3) := by decide +kernel
theorem dX10_count_73 : decode cX10_count 73 = .ok (.ireturn, 1) := by decide +kernel
theorem dX10_count_74 : decode cX10_count 74 = .ok (.aload_n 0, 1) := by decide +kernel
theorem dX10_count_75 : decode cX10_count 75 = .ok (.getfield 10, 3) := by decide +kernel
theorem dX10_count_78 : decode cX10_count 78 = .ok (.getfield 67, 3) := by decide +kernel
theorem dX10_count_81 : decode cX10_count 81 = .ok (.ireturn, 1) := by decide +kernel
theorem dX10_count_82 : decode cX10_count 82 = .ok (.iconst (-1), 1) := by decide +kernel
theorem dX10_count_83 : decode cX10_count 83 = .ok (.ireturn, 1) := by decide +kernel
theorem dX10_far_0 : decode cX10_far 0 = .ok (.aload_n 0, 1) := by decide +kernel
theorem dX10_far_1 : decode cX10_far 1 = .ok (.getfield 19, 3) := by decide +kernel
theorem dX10_far_4 : decode cX10_far 4 = .ok (.iload_n 1, 1) := by decide +kernel
theorem dX10_far_5 : decode cX10_far 5 = .ok (.invokevirtual 129, 3) := by decide +kernel
theorem dX10_far_8 : decode cX10_far 8 = .ok (.ifCond .eq 14, 3) := by decide +kernel
theorem dX10_far_11 : decode cX10_far 11 = .ok (.aload_n 0, 1) := by decide +kernel
theorem dX10_far_12 : decode cX10_far 12 = .ok (.getfield 19, 3) := by decide +kernel
theorem dX10_far_15 : decode cX10_far 15 = .ok (.iload_n 2, 1) := by decide +kernel
theorem dX10_far_16 : decode cX10_far 16 = .ok (.invokevirtual 109, 3) := by decide +kernel
theorem dX10_far_19 : decode cX10_far 19 = .ok (.ifCond .ne 5, 3) := by decide +kernel
theorem dX10_far_22 : decode cX10_far 22 = .ok (.iconst (-1), 1) := by decide +kernel
theorem dX10_far_23 : decode cX10_far 23 = .ok (.ireturn, 1) := by decide +kernel
theorem dX10_far_24 : decode cX10_far 24 = .ok (.aload_n 0, 1) := by decide +kernel
theorem dX10_far_25 : decode cX10_far 25 = .ok (.getfield 19, 3) := by decide +kernel
theorem dX10_far_28 : decode cX10_far 28 = .ok (.getfield 138, 3) := by decide +kernel
theorem dX10_far_31 : decode cX10_far 31 = .ok (.getfield 165, 3) := by decide +kernel
theorem dX10_far_34 : decode cX10_far 34 = .ok (.iload_n 1, 1) := by decide +kernel
theorem dX10_far_35 : decode cX10_far 35 = .ok (.bipush 8, 2) := by decide +kernel
theorem dX10_far_37 : decode cX10_far 37 = .ok (.imul, 1) := by decide +kernel
theorem dX10_far_38 : decode cX10_far 38 = .ok (.iload_n 2, 1) := by decide +kernel
theorem dX10_far_39 : decode cX10_far 39 = .ok (.iadd, 1) := by decide +kernel
theorem dX10_far_40 : decode cX10_far 40 = .ok (.iaload, 1) := by decide +kernel
theorem dX10_far_41 : decode cX10_far 41 = .ok (.ireturn, 1) := by decide +kernel
theorem dX10_forget_0 : decode cX10_forget 0 = .ok (.aload_n 0, 1) := by decide +kernel
theorem dX10_forget_1 : decode cX10_forget 1 = .ok (.getfield 56, 3) := by decide +kernel
theorem dX10_forget_4 : decode cX10_forget 4 = .ok (.getfield 93, 3) := by decide +kernel
theorem dX10_forget_7 : decode cX10_forget 7 = .ok (.istore_n 1, 1) := by decide +kernel
theorem dX10_forget_8 : decode cX10_forget 8 = .ok (.aload_n 0, 1) := by decide +kernel
theorem dX10_forget_9 : decode cX10_forget 9 = .ok (.getfield 56, 3) := by decide +kernel
theorem dX10_forget_12 : decode cX10_forget 12 = .ok (.iconst 0, 1) := by decide +kernel
theorem dX10_forget_13 : decode cX10_forget 13 = .ok (.putfield 93, 3) := by decide +kernel
theorem dX10_forget_16 : decode cX10_forget 16 = .ok (.iload_n 1, 1) := by decide +kernel
theorem dX10_forget_17 : decode cX10_forget 17 = .ok (.ireturn, 1) := by decide +kernel
theorem dX10_hall_0 : decode cX10_hall 0 = .ok (.aload_n 0, 1) := by decide +kernel
theorem dX10_hall_1 : decode cX10_hall 1 = .ok (.getfield 10, 3) := by decide +kernel
theorem dX10_hall_4 : decode cX10_hall 4 = .ok (.invokevirtual 75, 3) := by decide +kernel
theorem dX10_hall_7 : decode cX10_hall 7 = .ok (.ifCond .ne 14, 3) := by decide +kernel
theorem dX10_hall_10 : decode cX10_hall 10 = .ok (.bipush (-10), 2) := by decide +kernel
theorem dX10_hall_12 : decode cX10_hall 12 = .ok (.aload_n 0, 1) := by decide +kernel
theorem dX10_hall_13 : decode cX10_hall 13 = .ok (.getfield 10, 3) := by decide +kernel
theorem dX10_hall_16 : decode cX10_hall 16 = .ok (.getfield 79, 3) := by decide +kernel
theorem dX10_hall_19 : decode cX10_hall 19 = .ok (.isub, 1) := by decide +kernel
theorem dX10_hall_20 : decode cX10_hall 20 = .ok (.ireturn, 1) := by decide +kernel
theorem dX10_hall_21 : decode cX10_hall 21 = .ok (.aload_n 0, 1) := by decide +kernel
theorem dX10_hall_22 : decode cX10_hall 22 = .ok (.getfield 19, 3) := by decide +kernel
theorem dX10_hall_25 : decode cX10_hall 25 = .ok (.aload_n 0, 1) := by decide +kernel
theorem dX10_hall_26 : decode cX10_hall 26 = .ok (.getfield 10, 3) := by decide +kernel
theorem dX10_hall_29 : decode cX10_hall 29 = .ok (.getfield 82, 3) := by decide +kernel
theorem dX10_hall_32 : decode cX10_hall 32 = .ok (.invokevirtual 86, 3) := by decide +kernel
theorem dX10_hall_35 : decode cX10_hall 35 = .ok (.aload_n 0, 1) := by decide +kernel
theorem dX10_hall_36 : decode cX10_hall 36 = .ok (.getfield 26, 3) := by decide +kernel
theorem dX10_hall_39 : decode cX10_hall 39 = .ok (.iconst 0, 1) := by decide +kernel
theorem dX10_hall_40 : decode cX10_hall 40 = .ok (.putfield 90, 3) := by decide +kernel
theorem dX10_hall_43 : decode cX10_hall 43 = .ok (.aload_n 0, 1) := by decide +kernel
theorem dX10_hall_44 : decode cX10_hall 44 = .ok (.getfield 56, 3) := by decide +kernel
theorem dX10_hall_47 : decode cX10_hall 47 = .ok (.iconst 0, 1) := by decide +kernel
theorem dX10_hall_48 : decode cX10_hall 48 = .ok (.putfield 93, 3) := by decide +kernel
theorem dX10_hall_51 : decode cX10_hall 51 = .ok (.iconst 0, 1) := by decide +kernel
theorem dX10_hall_52 : decode cX10_hall 52 = .ok (.istore_n 1, 1) := by decide +kernel
theorem dX10_hall_53 : decode cX10_hall 53 = .ok (.iload_n 1, 1) := by decide +kernel
theorem dX10_hall_54 : decode cX10_hall 54 = .ok (.iconst 2, 1) := by decide +kernel
theorem dX10_hall_55 : decode cX10_hall 55 = .ok (.if_icmp .ge 19, 3) := by decide +kernel
theorem dX10_hall_58 : decode cX10_hall 58 = .ok (.aload_n 0, 1) := by decide +kernel
theorem dX10_hall_59 : decode cX10_hall 59 = .ok (.getfield 32, 3) := by decide +kernel
theorem dX10_hall_62 : decode cX10_hall 62 = .ok (.iload_n 1, 1) := by decide +kernel
theorem dX10_hall_63 : decode cX10_hall 63 = .ok (.aaload, 1) := by decide +kernel
theorem dX10_hall_64 : decode cX10_hall 64 = .ok (.iconst 0, 1) := by decide +kernel
theorem dX10_hall_65 : decode cX10_hall 65 = .ok (.putfield 94, 3) := by decide +kernel
theorem dX10_hall_68 : decode cX10_hall 68 = .ok (.iinc 1 1, 3) := by decide +kernel
theorem dX10_hall_71 : decode cX10_hall 71 = .ok (.goto (-18), 3) := by decide +kernel
theorem dX10_hall_74 : decode cX10_hall 74 = .ok (.aload_n 0, 1) := by decide +kernel
theorem dX10_hall_75 : decode cX10_hall 75 = .ok (.getfield 10, 3) := by decide +kernel
theorem dX10_hall_78 : decode cX10_hall 78 = .ok (.iconst 0, 1) := by decide +kernel
theorem dX10_hall_79 : decode cX10_hall 79 = .ok (.putfield 67, 3) := by decide +kernel
theorem dX10_hall_82 : decode cX10_hall 82 = .ok (.aload_n 0, 1) := by decide +kernel
theorem dX10_hall_83 : decode cX10_hall 83 = .ok (.getfield 19, 3) := by decide +kernel
theorem dX10_hall_86 : decode cX10_hall 86 = .ok (.getfield 98, 3) := by decide +kernel
theorem dX10_hall_89 : decode cX10_hall 89 = .ok (.getfield 101, 3) := by decide +kernel
theorem dX10_hall_92 : decode cX10_hall 92 = .ok (.aload_n 0, 1) := by decide +kernel
theorem dX10_hall_93 : decode cX10_hall 93 = .ok (.getfield 19, 3) := by decide +kernel
theorem dX10_hall_96 : decode cX10_hall 96 = .ok (.getfield 98, 3) := by decide +kernel
theorem dX10_hall_99 : decode cX10_hall 99 = .ok (.getfield 106, 3) := by decide +kernel
theorem dX10_hall_102 : decode cX10_hall 102 = .ok (.iadd, 1) := by decide +kernel
theorem dX10_hall_103 : decode cX10_hall 103 = .ok (.ireturn, 1) := by decide +kernel
theorem dX10_has_0 : decode cX10_has 0 = .ok (.iload_n 0, 1) := by decide +kernel
theorem dX10_has_1 : decode cX10_has 1 = .ok (.iload_n 1, 1) := by decide +kernel
theorem dX10_has_2 : decode cX10_has 2 = .ok (.ishr, 1) := by decide +kernel
theorem dX10_has_3 : decode cX10_has 3 = .ok (.iconst 1, 1) := by decide +kernel
theorem dX10_has_4 : decode cX10_has 4 = .ok (.iand, 1) := by decide +kernel
theorem dX10_has_5 : decode cX10_has 5 = .ok (.iconst 1, 1) := by decide +kernel
theorem dX10_has_6 : decode cX10_has 6 = .ok (.if_icmp .ne 7, 3) := by decide +kernel
theorem dX10_has_9 : decode cX10_has 9 = .ok (.iconst 1, 1) := by decide +kernel
theorem dX10_has_10 : decode cX10_has 10 = .ok (.goto 4, 3) := by decide +kernel
theorem dX10_has_13 : decode cX10_has 13 = .ok (.iconst 0, 1) := by decide +kernel
theorem dX10_has_14 : decode cX10_has 14 = .ok (.ireturn, 1) := by decide +kernel
theorem dX10_hears_0 : decode cX10_hears 0 = .ok (.aload_n 0, 1) := by decide +kernel
theorem dX10_hears_1 : decode cX10_hears 1 = .ok (.getfield 19, 3) := by decide +kernel
theorem dX10_hears_4 : decode cX10_hears 4 = .ok (.iload_n 1, 1) := by decide +kernel
theorem dX10_hears_5 : decode cX10_hears 5 = .ok (.invokevirtual 109, 3) := by decide +kernel
theorem dX10_hears_8 : decode cX10_hears 8 = .ok (.ifCond .eq 12, 3) := by decide +kernel
theorem dX10_hears_11 : decode cX10_hears 11 = .ok (.iload_n 2, 1) := by decide +kernel
theorem dX10_hears_12 : decode cX10_hears 12 = .ok (.ifCond .lt 8, 3) := by decide +kernel
theorem dX10_hears_15 : decode cX10_hears 15 = .ok (.iload_n 2, 1) := by decide +kernel
theorem dX10_hears_16 : decode cX10_hears 16 = .ok (.iconst 1, 1) := by decide +kernel
theorem dX10_hears_17 : decode cX10_hears 17 = .ok (.if_icmp .le 5, 3) := by decide +kernel
theorem dX10_hears_20 : decode cX10_hears 20 = .ok (.iconst (-1), 1) := by decide +kernel
theorem dX10_hears_21 : decode cX10_hears 21 = .ok (.ireturn, 1) := by decide +kernel
theorem dX10_hears_22 : decode cX10_hears 22 = .ok (.aload_n 0, 1) := by decide +kernel
theorem dX10_hears_23 : decode cX10_hears 23 = .ok (.getfield 56, 3) := by decide +kernel
theorem dX10_hears_26 : decode cX10_hears 26 = .ok (.getfield 93, 3) := by decide +kernel
theorem dX10_hears_29 : decode cX10_hears 29 = .ok (.bipush 6, 2) := by decide +kernel
theorem dX10_hears_31 : decode cX10_hears 31 = .ok (.if_icmp .lt 6, 3) := by decide +kernel
theorem dX10_hears_34 : decode cX10_hears 34 = .ok (.bipush (-3), 2) := by decide +kernel
theorem dX10_hears_36 : decode cX10_hears 36 = .ok (.ireturn, 1) := by decide +kernel
theorem dX10_hears_37 : decode cX10_hears 37 = .ok (.aload_n 0, 1) := by decide +kernel
theorem dX10_hears_38 : decode cX10_hears 38 = .ok (.getfield 56, 3) := by decide +kernel
theorem dX10_hears_41 : decode cX10_hears 41 = .ok (.iload_n 1, 1) := by decide +kernel
theorem dX10_hears_42 : decode cX10_hears 42 = .ok (.iload_n 2, 1) := by decide +kernel
theorem dX10_hears_43 : decode cX10_hears 43 = .ok (.invokevirtual 255, 3) := by decide +kernel
theorem dX10_hears_46 : decode cX10_hears 46 = .ok (.aload_n 0, 1) := by decide +kernel
theorem dX10_hears_47 : decode cX10_hears 47 = .ok (.getfield 56, 3) := by decide +kernel
theorem dX10_hears_50 : decode cX10_hears 50 = .ok (.getfield 93, 3) := by decide +kernel
theorem dX10_hears_53 : decode cX10_hears 53 = .ok (.ireturn, 1) := by decide +kernel
theorem dX10_init_0 : decode cX10_init 0 = .ok (.aload_n 0, 1) := by decide +kernel
theorem dX10_init_1 : decode cX10_init 1 = .ok (.invokespecial 1, 3) := by decide +kernel
theorem dX10_init_4 : decode cX10_init 4 = .ok (.aload_n 0, 1) := by decide +kernel
theorem dX10_init_5 : decode cX10_init 5 = .ok (.new 7, 3) := by decide +kernel
theorem dX10_init_8 : decode cX10_init 8 = .ok (.dup, 1) := by decide +kernel
theorem dX10_init_9 : decode cX10_init 9 = .ok (.invokespecial 9, 3) := by decide +kernel
theorem dX10_init_12 : decode cX10_init 12 = .ok (.putfield 10, 3) := by decide +kernel
theorem dX10_init_15 : decode cX10_init 15 = .ok (.aload_n 0, 1) := by decide +kernel
theorem dX10_init_16 : decode cX10_init 16 = .ok (.new 16, 3) := by decide +kernel
theorem dX10_init_19 : decode cX10_init 19 = .ok (.dup, 1) := by decide +kernel
theorem dX10_init_20 : decode cX10_init 20 = .ok (.invokespecial 18, 3) := by decide +kernel
theorem dX10_init_23 : decode cX10_init 23 = .ok (.putfield 19, 3) := by decide +kernel
theorem dX10_init_26 : decode cX10_init 26 = .ok (.aload_n 0, 1) := by decide +kernel
theorem dX10_init_27 : decode cX10_init 27 = .ok (.new 23, 3) := by decide +kernel
theorem dX10_init_30 : decode cX10_init 30 = .ok (.dup, 1) := by decide +kernel
theorem dX10_init_31 : decode cX10_init 31 = .ok (.invokespecial 25, 3) := by decide +kernel
theorem dX10_init_34 : decode cX10_init 34 = .ok (.putfield 26, 3) := by decide +kernel
theorem dX10_init_37 : decode cX10_init 37 = .ok (.aload_n 0, 1) := by decide +kernel
theorem dX10_init_38 : decode cX10_init 38 = .ok (.iconst 2, 1) := by decide +kernel
theorem dX10_init_39 : decode cX10_init 39 = .ok (.anewarray 30, 3) := by decide +kernel
theorem dX10_init_42 : decode cX10_init 42 = .ok (.putfield 32, 3) := by decide +kernel
theorem dX10_init_45 : decode cX10_init 45 = .ok (.iconst 0, 1) := by decide +kernel
theorem dX10_init_46 : decode cX10_init 46 = .ok (.istore_n 1, 1) := by decide +kernel
theorem dX10_init_47 : decode cX10_init 47 = .ok (.iload_n 1, 1) := by decide +kernel
theorem dX10_init_48 : decode cX10_init 48 = .ok (.iconst 2, 1) := by decide +kernel
theorem dX10_init_49 : decode cX10_init 49 = .ok (.if_icmp .ge 22, 3) := by decide +kernel
theorem dX10_init_52 : decode cX10_init 52 = .ok (.aload_n 0, 1) := by decide +kernel
theorem dX10_init_53 : decode cX10_init 53 = .ok (.getfield 32, 3) := by decide +kernel
theorem dX10_init_56 : decode cX10_init 56 = .ok (.iload_n 1, 1) := by decide +kernel
theorem dX10_init_57 : decode cX10_init 57 = .ok (.new 30, 3) := by decide +kernel
theorem dX10_init_60 : decode cX10_init 60 = .ok (.dup, 1) := by decide +kernel
theorem dX10_init_61 : decode cX10_init 61 = .ok (.invokespecial 36, 3) := by decide +kernel
theorem dX10_init_64 : decode cX10_init 64 = .ok (.aastore, 1) := by decide +kernel
theorem dX10_init_65 : decode cX10_init 65 = .ok (.iinc 1 1, 3) := by decide +kernel
theorem dX10_init_68 : decode cX10_init 68 = .ok (.goto (-21), 3) := by decide +kernel
theorem dX10_init_71 : decode cX10_init 71 = .ok (.aload_n 0, 1) := by decide +kernel
theorem dX10_init_72 : decode cX10_init 72 = .ok (.new 37, 3) := by decide +kernel
theorem dX10_init_75 : decode cX10_init 75 = .ok (.dup, 1) := by decide +kernel
theorem dX10_init_76 : decode cX10_init 76 = .ok (.aload_n 0, 1) := by decide +kernel
theorem dX10_init_77 : decode cX10_init 77 = .ok (.getfield 19, 3) := by decide +kernel
theorem dX10_init_80 : decode cX10_init 80 = .ok (.invokespecial 39, 3) := by decide +kernel
theorem dX10_init_83 : decode cX10_init 83 = .ok (.putfield 42, 3) := by decide +kernel
theorem dX10_init_86 : decode cX10_init 86 = .ok (.aload_n 0, 1) := by decide +kernel
theorem dX10_init_87 : decode cX10_init 87 = .ok (.new 46, 3) := by decide +kernel
theorem dX10_init_90 : decode cX10_init 90 = .ok (.dup, 1) := by decide +kernel
theorem dX10_init_91 : decode cX10_init 91 = .ok (.aload_n 0, 1) := by decide +kernel
theorem dX10_init_92 : decode cX10_init 92 = .ok (.getfield 19, 3) := by decide +kernel
theorem dX10_init_95 : decode cX10_init 95 = .ok (.invokespecial 48, 3) := by decide +kernel
theorem dX10_init_98 : decode cX10_init 98 = .ok (.putfield 49, 3) := by decide +kernel
theorem dX10_init_101 : decode cX10_init 101 = .ok (.aload_n 0, 1) := by decide +kernel
theorem dX10_init_102 : decode cX10_init 102 = .ok (.new 53, 3) := by decide +kernel
theorem dX10_init_105 : decode cX10_init 105 = .ok (.dup, 1) := by decide +kernel
theorem dX10_init_106 : decode cX10_init 106 = .ok (.aload_n 0, 1) := by decide +kernel
theorem dX10_init_107 : decode cX10_init 107 = .ok (.getfield 19, 3) := by decide +kernel
theorem dX10_init_110 : decode cX10_init 110 = .ok (.invokespecial 55, 3) := by decide +kernel
theorem dX10_init_113 : decode cX10_init 113 = .ok (.putfield 56, 3) := by decide +kernel
theorem dX10_init_116 : decode cX10_init 116 = .ok (.aload_n 0, 1) := by decide +kernel
theorem dX10_init_117 : decode cX10_init 117 = .ok (.new 60, 3) := by decide +kernel
theorem dX10_init_120 : decode cX10_init 120 = .ok (.dup, 1) := by decide +kernel
theorem dX10_init_121 : decode cX10_init 121 = .ok (.aload_n 0, 1) := by decide +kernel
theorem dX10_init_122 : decode cX10_init 122 = .ok (.getfield 19, 3) := by decide +kernel
theorem dX10_init_125 : decode cX10_init 125 = .ok (.invokespecial 62, 3) := by decide +kernel
theorem dX10_init_128 : decode cX10_init 128 = .ok (.putfield 63, 3) := by decide +kernel
theorem dX10_init_131 : decode cX10_init 131 = .ok (.return_, 1) := by decide +kernel
theorem dX10_joins_0 : decode cX10_joins 0 = .ok (.aload_n 0, 1) := by decide +kernel
theorem dX10_joins_1 : decode cX10_joins 1 = .ok (.getfield 19, 3) := by decide +kernel
theorem dX10_joins_4 : decode cX10_joins 4 = .ok (.iload_n 1, 1) := by decide +kernel
theorem dX10_joins_5 : decode cX10_joins 5 = .ok (.invokevirtual 129, 3) := by decide +kernel
theorem dX10_joins_8 : decode cX10_joins 8 = .ok (.ifCond .eq 29, 3) := by decide +kernel
theorem dX10_joins_11 : decode cX10_joins 11 = .ok (.aload_n 0, 1) := by decide +kernel
theorem dX10_joins_12 : decode cX10_joins 12 = .ok (.getfield 19, 3) := by decide +kernel
theorem dX10_joins_15 : decode cX10_joins 15 = .ok (.iload_n 2, 1) := by decide +kernel
theorem dX10_joins_16 : decode cX10_joins 16 = .ok (.invokevirtual 129, 3) := by decide +kernel
theorem dX10_joins_19 : decode cX10_joins 19 = .ok (.ifCond .eq 18, 3) := by decide +kernel
theorem dX10_joins_22 : decode cX10_joins 22 = .ok (.iload_n 1, 1) := by decide +kernel
theorem dX10_joins_23 : decode cX10_joins 23 = .ok (.iload_n 2, 1) := by decide +kernel
theorem dX10_joins_24 : decode cX10_joins 24 = .ok (.if_icmp .eq 13, 3) := by decide +kernel
theorem dX10_joins_27 : decode cX10_joins 27 = .ok (.iload_n 3, 1) := by decide +kernel
theorem dX10_joins_28 : decode cX10_joins 28 = .ok (.ifCond .lt 9, 3) := by decide +kernel
theorem dX10_joins_31 : decode cX10_joins 31 = .ok (.iload_n 3, 1) := by decide +kernel
theorem dX10_joins_32 : decode cX10_joins 32 = .ok (.bipush 6, 2) := by decide +kernel
theorem dX10_joins_34 : decode cX10_joins 34 = .ok (.if_icmp .lt 5, 3) := by decide +kernel
theorem dX10_joins_37 : decode cX10_joins 37 = .ok (.iconst (-1), 1) := by decide +kernel
theorem dX10_joins_38 : decode cX10_joins 38 = .ok (.ireturn, 1) := by decide +kernel
theorem dX10_joins_39 : decode cX10_joins 39 = .ok (.aload_n 0, 1) := by decide +kernel
theorem dX10_joins_40 : decode cX10_joins 40 = .ok (.getfield 19, 3) := by decide +kernel
theorem dX10_joins_43 : decode cX10_joins 43 = .ok (.getfield 138, 3) := by decide +kernel
theorem dX10_joins_46 : decode cX10_joins 46 = .ok (.getfield 142, 3) := by decide +kernel
theorem dX10_joins_49 : decode cX10_joins 49 = .ok (.iload_n 1, 1) := by decide +kernel
theorem dX10_joins_50 : decode cX10_joins 50 = .ok (.iaload, 1) := by decide +kernel
theorem dX10_joins_51 : decode cX10_joins 51 = .ok (.iload_n 3, 1) := by decide +kernel
theorem dX10_joins_52 : decode cX10_joins 52 = .ok (.invokestatic 190, 3) := by decide +kernel
theorem dX10_joins_55 : decode cX10_joins 55 = .ok (.ifCond .ne 22, 3) := by decide +kernel
theorem dX10_joins_58 : decode cX10_joins 58 = .ok (.aload_n 0, 1) := by decide +kernel
theorem dX10_joins_59 : decode cX10_joins 59 = .ok (.getfield 19, 3) := by decide +kernel
theorem dX10_joins_62 : decode cX10_joins 62 = .ok (.getfield 138, 3) := by decide +kernel
theorem dX10_joins_65 : decode cX10_joins 65 = .ok (.getfield 142, 3) := by decide +kernel
theorem dX10_joins_68 : decode cX10_joins 68 = .ok (.iload_n 2, 1) := by decide +kernel
theorem dX10_joins_69 : decode cX10_joins 69 = .ok (.iaload, 1) := by decide +kernel
theorem dX10_joins_70 : decode cX10_joins 70 = .ok (.iload_n 3, 1) := by decide +kernel
theorem dX10_joins_71 : decode cX10_joins 71 = .ok (.invokestatic 190, 3) := by decide +kernel
theorem dX10_joins_74 : decode cX10_joins 74 = .ok (.ifCond .ne 6, 3) := by decide +kernel
theorem dX10_joins_77 : decode cX10_joins 77 = .ok (.bipush (-2), 2) := by decide +kernel
theorem dX10_joins_79 : decode cX10_joins 79 = .ok (.ireturn, 1) := by decide +kernel
theorem dX10_joins_80 : decode cX10_joins 80 = .ok (.aload_n 0, 1) := by decide +kernel
theorem dX10_joins_81 : decode cX10_joins 81 = .ok (.getfield 26, 3) := by decide +kernel
theorem dX10_joins_84 : decode cX10_joins 84 = .ok (.aload_n 0, 1) := by decide +kernel
theorem dX10_joins_85 : decode cX10_joins 85 = .ok (.getfield 19, 3) := by decide +kernel
theorem dX10_joins_88 : decode cX10_joins 88 = .ok (.getfield 138, 3) := by decide +kernel
theorem dX10_joins_91 : decode cX10_joins 91 = .ok (.invokevirtual 172, 3) := by decide +kernel
theorem dX10_joins_94 : decode cX10_joins 94 = .ok (.aload_n 0, 1) := by decide +kernel
theorem dX10_joins_95 : decode cX10_joins 95 = .ok (.getfield 19, 3) := by decide +kernel
theorem dX10_joins_98 : decode cX10_joins 98 = .ok (.iload_n 1, 1) := by decide +kernel
theorem dX10_joins_99 : decode cX10_joins 99 = .ok (.iload_n 2, 1) := by decide +kernel
theorem dX10_joins_100 : decode cX10_joins 100 = .ok (.iload_n 3, 1) := by decide +kernel
theorem dX10_joins_101 : decode cX10_joins 101 = .ok (.invokevirtual 193, 3) := by decide +kernel
theorem dX10_joins_104 : decode cX10_joins 104 = .ok (.aload_n 0, 1) := by decide +kernel
theorem dX10_joins_105 : decode cX10_joins 105 = .ok (.getfield 19, 3) := by decide +kernel
theorem dX10_joins_108 : decode cX10_joins 108 = .ok (.getfield 138, 3) := by decide +kernel
theorem dX10_joins_111 : decode cX10_joins 111 = .ok (.getfield 142, 3) := by decide +kernel
theorem dX10_joins_114 : decode cX10_joins 114 = .ok (.iload_n 2, 1) := by decide +kernel
theorem dX10_joins_115 : decode cX10_joins 115 = .ok (.iaload, 1) := by decide +kernel
theorem dX10_joins_116 : decode cX10_joins 116 = .ok (.ireturn, 1) := by decide +kernel
