set_option maxRecDepth 20000 in
theorem gL_areRanked_X4_ranked : GoodIn wsL_areRanked (wsV RL 78 RX4 yX4_ranked wsX4_ranked) := goodIn_app (goodIn_of _ (by decide +kernel)) ggL_areRanked_X4_ranked
set_option maxRecDepth 20000 in
theorem ggL_areRanked_L_key : GoodIn wsL_areRanked wsL_key := goodIn_r _ [48, 2, 49, 50, 47, 51] (by decide +kernel) (by decide +kernel)
set_option maxRecDepth 20000 in
theorem gL_areRanked_L_key : GoodIn wsL_areRanked (va_wsS RL 81 yL_key wsL_key) := goodIn_app (goodIn_of _ (by decide +kernel)) ggL_areRanked_L_key
set_option maxRecDepth 20000 in
theorem ggL_areRanked_L_free : GoodIn wsL_areRanked wsL_free := goodIn_r _ [54, 55, 56, 47, 57] (by decide +kernel) (by decide +kernel)
set_option maxRecDepth 20000 in
theorem gL_areRanked_L_free : GoodIn wsL_areRanked (va_wsS RL 59 yL_free wsL_free) := goodIn_app (goodIn_of _ (by decide +kernel)) ggL_areRanked_L_free
set_option maxRecDepth 20000 in
theorem ggL_areRanked_X4_lengths : GoodIn wsL_areRanked wsX4_lengths := goodIn_ca (goodIn_r _ [61, 8, 14, 15, 6, 16, 12, 13, 62, 63, 19, 64, 65, 66, 67, 68, 69, 70, 21, 29, 71, 72, 73, 33, 74, 75, 76, 77, 78, 79, 80, 81, 82, 83, 84, 85, 86, 87, 88, 89, 90, 91, 92, 93] (by decide +kernel) (by decide +kernel)) (goodIn_sub (fun _ h => List.mem_cons_of_mem _ (List.mem_append_right _ h)) (by decide +kernel))
set_option maxRecDepth 20000 in
theorem gL_areRanked_X4_lengths : GoodIn wsL_areRanked (wsV RL 85 RX4 yX4_lengths wsX4_lengths) := goodIn_app (goodIn_of _ (by decide +kernel)) ggL_areRanked_X4_lengths
theorem dL_areRanked_0 : decode cL_areRanked 0 = .ok (.ldc 77, 2) := by decide +kernel
theorem dL_areRanked_2 : decode cL_areRanked 2 = .ok (.istore 8, 2) := by decide +kernel
theorem dL_areRanked_4 : decode cL_areRanked 4 = .ok (.iconst (-1), 1) := by decide +kernel
theorem dL_areRanked_5 : decode cL_areRanked 5 = .ok (.istore 9, 2) := by decide +kernel
theorem dL_areRanked_7 : decode cL_areRanked 7 = .ok (.aload_n 0, 1) := by decide +kernel
theorem dL_areRanked_8 : decode cL_areRanked 8 = .ok (.iload 7, 2) := by decide +kernel
theorem dL_areRanked_10 : decode cL_areRanked 10 = .ok (.aload 5, 2) := by decide +kernel
theorem dL_areRanked_12 : decode cL_areRanked 12 = .ok (.bipush 8, 2) := by decide +kernel
theorem dL_areRanked_14 : decode cL_areRanked 14 = .ok (.iaload, 1) := by decide +kernel
theorem dL_areRanked_15 : decode cL_areRanked 15 = .ok (.invokevirtual 78, 3) := by decide +kernel
theorem dL_areRanked_18 : decode cL_areRanked 18 = .ok (.iconst (-1), 1) := by decide +kernel
theorem dL_areRanked_19 : decode cL_areRanked 19 = .ok (.if_icmp .ne 7, 3) := by decide +kernel
theorem dL_areRanked_22 : decode cL_areRanked 22 = .ok (.iconst 1, 1) := by decide +kernel
theorem dL_areRanked_23 : decode cL_areRanked 23 = .ok (.goto 4, 3) := by decide +kernel
theorem dL_areRanked_26 : decode cL_areRanked 26 = .ok (.iconst 0, 1) := by decide +kernel
theorem dL_areRanked_27 : decode cL_areRanked 27 = .ok (.istore 10, 2) := by decide +kernel
theorem dL_areRanked_29 : decode cL_areRanked 29 = .ok (.iconst 0, 1) := by decide +kernel
theorem dL_areRanked_30 : decode cL_areRanked 30 = .ok (.istore 11, 2) := by decide +kernel
theorem dL_areRanked_32 : decode cL_areRanked 32 = .ok (.iload 11, 2) := by decide +kernel
theorem dL_areRanked_34 : decode cL_areRanked 34 = .ok (.aload 5, 2) := by decide +kernel
theorem dL_areRanked_36 : decode cL_areRanked 36 = .ok (.bipush 8, 2) := by decide +kernel
theorem dL_areRanked_38 : decode cL_areRanked 38 = .ok (.iaload, 1) := by decide +kernel
theorem dL_areRanked_39 : decode cL_areRanked 39 = .ok (.if_icmp .ge 114, 3) := by decide +kernel
theorem dL_areRanked_42 : decode cL_areRanked 42 = .ok (.iload 10, 2) := by decide +kernel
theorem dL_areRanked_44 : decode cL_areRanked 44 = .ok (.ifCond .eq 109, 3) := by decide +kernel
theorem dL_areRanked_47 : decode cL_areRanked 47 = .ok (.aload_n 0, 1) := by decide +kernel
theorem dL_areRanked_48 : decode cL_areRanked 48 = .ok (.iload 7, 2) := by decide +kernel
theorem dL_areRanked_50 : decode cL_areRanked 50 = .ok (.iload 11, 2) := by decide +kernel
theorem dL_areRanked_52 : decode cL_areRanked 52 = .ok (.invokevirtual 78, 3) := by decide +kernel
theorem dL_areRanked_55 : decode cL_areRanked 55 = .ok (.istore 12, 2) := by decide +kernel
theorem dL_areRanked_57 : decode cL_areRanked 57 = .ok (.iload 12, 2) := by decide +kernel
theorem dL_areRanked_59 : decode cL_areRanked 59 = .ok (.ifCond .lt 58, 3) := by decide +kernel
theorem dL_areRanked_62 : decode cL_areRanked 62 = .ok (.iload 12, 2) := by decide +kernel
theorem dL_areRanked_64 : decode cL_areRanked 64 = .ok (.aload 5, 2) := by decide +kernel
theorem dL_areRanked_66 : decode cL_areRanked 66 = .ok (.bipush 8, 2) := by decide +kernel
theorem dL_areRanked_68 : decode cL_areRanked 68 = .ok (.iaload, 1) := by decide +kernel
theorem dL_areRanked_69 : decode cL_areRanked 69 = .ok (.if_icmp .ge 48, 3) := by decide +kernel
theorem dL_areRanked_72 : decode cL_areRanked 72 = .ok (.aload_n 1, 1) := by decide +kernel
theorem dL_areRanked_73 : decode cL_areRanked 73 = .ok (.aload_n 2, 1) := by decide +kernel
theorem dL_areRanked_74 : decode cL_areRanked 74 = .ok (.aload_n 3, 1) := by decide +kernel
theorem dL_areRanked_75 : decode cL_areRanked 75 = .ok (.aload 4, 2) := by decide +kernel
theorem dL_areRanked_77 : decode cL_areRanked 77 = .ok (.iload 7, 2) := by decide +kernel
theorem dL_areRanked_79 : decode cL_areRanked 79 = .ok (.iload 12, 2) := by decide +kernel
theorem dL_areRanked_81 : decode cL_areRanked 81 = .ok (.invokestatic 81, 3) := by decide +kernel
theorem dL_areRanked_84 : decode cL_areRanked 84 = .ok (.iload 8, 2) := by decide +kernel
theorem dL_areRanked_86 : decode cL_areRanked 86 = .ok (.if_icmp .lt 27, 3) := by decide +kernel
theorem dL_areRanked_89 : decode cL_areRanked 89 = .ok (.aload_n 1, 1) := by decide +kernel
theorem dL_areRanked_90 : decode cL_areRanked 90 = .ok (.aload_n 2, 1) := by decide +kernel
theorem dL_areRanked_91 : decode cL_areRanked 91 = .ok (.aload_n 3, 1) := by decide +kernel
theorem dL_areRanked_92 : decode cL_areRanked 92 = .ok (.aload 4, 2) := by decide +kernel
theorem dL_areRanked_94 : decode cL_areRanked 94 = .ok (.iload 7, 2) := by decide +kernel
theorem dL_areRanked_96 : decode cL_areRanked 96 = .ok (.iload 12, 2) := by decide +kernel
theorem dL_areRanked_98 : decode cL_areRanked 98 = .ok (.invokestatic 81, 3) := by decide +kernel
theorem dL_areRanked_101 : decode cL_areRanked 101 = .ok (.iload 8, 2) := by decide +kernel
theorem dL_areRanked_103 : decode cL_areRanked 103 = .ok (.if_icmp .ne 14, 3) := by decide +kernel
theorem dL_areRanked_106 : decode cL_areRanked 106 = .ok (.iload 12, 2) := by decide +kernel
theorem dL_areRanked_108 : decode cL_areRanked 108 = .ok (.iload 9, 2) := by decide +kernel
theorem dL_areRanked_110 : decode cL_areRanked 110 = .ok (.if_icmp .le 7, 3) := by decide +kernel
theorem dL_areRanked_113 : decode cL_areRanked 113 = .ok (.iconst 1, 1) := by decide +kernel
theorem dL_areRanked_114 : decode cL_areRanked 114 = .ok (.goto 4, 3) := by decide +kernel
theorem dL_areRanked_117 : decode cL_areRanked 117 = .ok (.iconst 0, 1) := by decide +kernel
theorem dL_areRanked_118 : decode cL_areRanked 118 = .ok (.istore 10, 2) := by decide +kernel
theorem dL_areRanked_120 : decode cL_areRanked 120 = .ok (.iload 10, 2) := by decide +kernel
theorem dL_areRanked_122 : decode cL_areRanked 122 = .ok (.ifCond .eq 18, 3) := by decide +kernel
theorem dL_areRanked_125 : decode cL_areRanked 125 = .ok (.aload_n 1, 1) := by decide +kernel
theorem dL_areRanked_126 : decode cL_areRanked 126 = .ok (.aload_n 2, 1) := by decide +kernel
theorem dL_areRanked_127 : decode cL_areRanked 127 = .ok (.aload_n 3, 1) := by decide +kernel
theorem dL_areRanked_128 : decode cL_areRanked 128 = .ok (.aload 4, 2) := by decide +kernel
theorem dL_areRanked_130 : decode cL_areRanked 130 = .ok (.iload 7, 2) := by decide +kernel
theorem dL_areRanked_132 : decode cL_areRanked 132 = .ok (.iload 12, 2) := by decide +kernel
theorem dL_areRanked_134 : decode cL_areRanked 134 = .ok (.invokestatic 81, 3) := by decide +kernel
theorem dL_areRanked_137 : decode cL_areRanked 137 = .ok (.goto 4, 3) := by decide +kernel
theorem dL_areRanked_140 : decode cL_areRanked 140 = .ok (.iconst 0, 1) := by decide +kernel
theorem dL_areRanked_141 : decode cL_areRanked 141 = .ok (.istore 8, 2) := by decide +kernel
theorem dL_areRanked_143 : decode cL_areRanked 143 = .ok (.iload 12, 2) := by decide +kernel
theorem dL_areRanked_145 : decode cL_areRanked 145 = .ok (.istore 9, 2) := by decide +kernel
theorem dL_areRanked_147 : decode cL_areRanked 147 = .ok (.iinc 11 1, 3) := by decide +kernel
theorem dL_areRanked_150 : decode cL_areRanked 150 = .ok (.goto (-118), 3) := by decide +kernel
theorem dL_areRanked_153 : decode cL_areRanked 153 = .ok (.aload 5, 2) := by decide +kernel
theorem dL_areRanked_155 : decode cL_areRanked 155 = .ok (.aload 6, 2) := by decide +kernel
theorem dL_areRanked_157 : decode cL_areRanked 157 = .ok (.invokestatic 59, 3) := by decide +kernel
theorem dL_areRanked_160 : decode cL_areRanked 160 = .ok (.istore 11, 2) := by decide +kernel
theorem dL_areRanked_162 : decode cL_areRanked 162 = .ok (.iconst 0, 1) := by decide +kernel
theorem dL_areRanked_163 : decode cL_areRanked 163 = .ok (.istore 12, 2) := by decide +kernel
theorem dL_areRanked_165 : decode cL_areRanked 165 = .ok (.iconst 0, 1) := by decide +kernel
theorem dL_areRanked_166 : decode cL_areRanked 166 = .ok (.istore 13, 2) := by decide +kernel
theorem dL_areRanked_168 : decode cL_areRanked 168 = .ok (.iconst 1, 1) := by decide +kernel
theorem dL_areRanked_169 : decode cL_areRanked 169 = .ok (.istore 14, 2) := by decide +kernel
theorem dL_areRanked_171 : decode cL_areRanked 171 = .ok (.iload 14, 2) := by decide +kernel
theorem dL_areRanked_173 : decode cL_areRanked 173 = .ok (.ifCond .eq 134, 3) := by decide +kernel
theorem dL_areRanked_176 : decode cL_areRanked 176 = .ok (.iload 10, 2) := by decide +kernel
theorem dL_areRanked_178 : decode cL_areRanked 178 = .ok (.ifCond .eq 129, 3) := by decide +kernel
theorem dL_areRanked_181 : decode cL_areRanked 181 = .ok (.ldc 76, 2) := by decide +kernel
theorem dL_areRanked_183 : decode cL_areRanked 183 = .ok (.istore 15, 2) := by decide +kernel
theorem dL_areRanked_185 : decode cL_areRanked 185 = .ok (.iconst 0, 1) := by decide +kernel
theorem dL_areRanked_186 : decode cL_areRanked 186 = .ok (.istore 16, 2) := by decide +kernel
theorem dL_areRanked_188 : decode cL_areRanked 188 = .ok (.iload 16, 2) := by decide +kernel
theorem dL_areRanked_190 : decode cL_areRanked 190 = .ok (.aload 5, 2) := by decide +kernel
theorem dL_areRanked_192 : decode cL_areRanked 192 = .ok (.bipush 8, 2) := by decide +kernel
theorem dL_areRanked_194 : decode cL_areRanked 194 = .ok (.iaload, 1) := by decide +kernel
theorem dL_areRanked_195 : decode cL_areRanked 195 = .ok (.if_icmp .ge 49, 3) := by decide +kernel
theorem dL_areRanked_198 : decode cL_areRanked 198 = .ok (.iload 11, 2) := by decide +kernel
theorem dL_areRanked_200 : decode cL_areRanked 200 = .ok (.iload 16, 2) := by decide +kernel
theorem dL_areRanked_202 : decode cL_areRanked 202 = .ok (.ishr, 1) := by decide +kernel
theorem dL_areRanked_203 : decode cL_areRanked 203 = .ok (.iconst 1, 1) := by decide +kernel
theorem dL_areRanked_204 : decode cL_areRanked 204 = .ok (.iand, 1) := by decide +kernel
theorem dL_areRanked_205 : decode cL_areRanked 205 = .ok (.iconst 1, 1) := by decide +kernel
theorem dL_areRanked_206 : decode cL_areRanked 206 = .ok (.if_icmp .ne 28, 3) := by decide +kernel
theorem dL_areRanked_209 : decode cL_areRanked 209 = .ok (.aload_n 1, 1) := by decide +kernel
theorem dL_areRanked_210 : decode cL_areRanked 210 = .ok (.iload 16, 2) := by decide +kernel
theorem dL_areRanked_212 : decode cL_areRanked 212 = .ok (.iaload, 1) := by decide +kernel
theorem dL_areRanked_213 : decode cL_areRanked 213 = .ok (.iload 13, 2) := by decide +kernel
theorem dL_areRanked_215 : decode cL_areRanked 215 = .ok (.if_icmp .le 19, 3) := by decide +kernel
theorem dL_areRanked_218 : decode cL_areRanked 218 = .ok (.aload_n 1, 1) := by decide +kernel
theorem dL_areRanked_219 : decode cL_areRanked 219 = .ok (.iload 16, 2) := by decide +kernel
theorem dL_areRanked_221 : decode cL_areRanked 221 = .ok (.iaload, 1) := by decide +kernel
theorem dL_areRanked_222 : decode cL_areRanked 222 = .ok (.iload 15, 2) := by decide +kernel
theorem dL_areRanked_224 : decode cL_areRanked 224 = .ok (.if_icmp .ge 10, 3) := by decide +kernel
theorem dL_areRanked_227 : decode cL_areRanked 227 = .ok (.aload_n 1, 1) := by decide +kernel
theorem dL_areRanked_228 : decode cL_areRanked 228 = .ok (.iload 16, 2) := by decide +kernel
theorem dL_areRanked_230 : decode cL_areRanked 230 = .ok (.iaload, 1) := by decide +kernel
theorem dL_areRanked_231 : decode cL_areRanked 231 = .ok (.goto 5, 3) := by decide +kernel
theorem dL_areRanked_234 : decode cL_areRanked 234 = .ok (.iload 15, 2) := by decide +kernel
theorem dL_areRanked_236 : decode cL_areRanked 236 = .ok (.istore 15, 2) := by decide +kernel
theorem dL_areRanked_238 : decode cL_areRanked 238 = .ok (.iinc 16 1, 3) := by decide +kernel
theorem dL_areRanked_241 : decode cL_areRanked 241 = .ok (.goto (-53), 3) := by decide +kernel
theorem dL_areRanked_244 : decode cL_areRanked 244 = .ok (.iload 15, 2) := by decide +kernel
theorem dL_areRanked_246 : decode cL_areRanked 246 = .ok (.ldc 76, 2) := by decide +kernel
theorem dL_areRanked_248 : decode cL_areRanked 248 = .ok (.if_icmp .ge 7, 3) := by decide +kernel
theorem dL_areRanked_251 : decode cL_areRanked 251 = .ok (.iconst 1, 1) := by decide +kernel
theorem dL_areRanked_252 : decode cL_areRanked 252 = .ok (.goto 4, 3) := by decide +kernel
theorem dL_areRanked_255 : decode cL_areRanked 255 = .ok (.iconst 0, 1) := by decide +kernel
theorem dL_areRanked_256 : decode cL_areRanked 256 = .ok (.istore 14, 2) := by decide +kernel
theorem dL_areRanked_258 : decode cL_areRanked 258 = .ok (.aload_n 0, 1) := by decide +kernel
theorem dL_areRanked_259 : decode cL_areRanked 259 = .ok (.iload 12, 2) := by decide +kernel
theorem dL_areRanked_261 : decode cL_areRanked 261 = .ok (.invokevirtual 85, 3) := by decide +kernel
theorem dL_areRanked_264 : decode cL_areRanked 264 = .ok (.iload 14, 2) := by decide +kernel
theorem dL_areRanked_266 : decode cL_areRanked 266 = .ok (.ifCond .eq 8, 3) := by decide +kernel
theorem dL_areRanked_269 : decode cL_areRanked 269 = .ok (.iload 15, 2) := by decide +kernel
theorem dL_areRanked_271 : decode cL_areRanked 271 = .ok (.goto 4, 3) := by decide +kernel
theorem dL_areRanked_274 : decode cL_areRanked 274 = .ok (.iconst (-1), 1) := by decide +kernel
theorem dL_areRanked_275 : decode cL_areRanked 275 = .ok (.if_icmp .ne 7, 3) := by decide +kernel
theorem dL_areRanked_278 : decode cL_areRanked 278 = .ok (.iconst 1, 1) := by decide +kernel
theorem dL_areRanked_279 : decode cL_areRanked 279 = .ok (.goto 4, 3) := by decide +kernel
theorem dL_areRanked_282 : decode cL_areRanked 282 = .ok (.iconst 0, 1) := by decide +kernel
theorem dL_areRanked_283 : decode cL_areRanked 283 = .ok (.istore 10, 2) := by decide +kernel
theorem dL_areRanked_285 : decode cL_areRanked 285 = .ok (.iload 15, 2) := by decide +kernel
theorem dL_areRanked_287 : decode cL_areRanked 287 = .ok (.istore 13, 2) := by decide +kernel
theorem dL_areRanked_289 : decode cL_areRanked 289 = .ok (.iload 12, 2) := by decide +kernel
theorem dL_areRanked_291 : decode cL_areRanked 291 = .ok (.iload 14, 2) := by decide +kernel
theorem dL_areRanked_293 : decode cL_areRanked 293 = .ok (.ifCond .eq 7, 3) := by decide +kernel
theorem dL_areRanked_296 : decode cL_areRanked 296 = .ok (.iconst 1, 1) := by decide +kernel
theorem dL_areRanked_297 : decode cL_areRanked 297 = .ok (.goto 4, 3) := by decide +kernel
theorem dL_areRanked_300 : decode cL_areRanked 300 = .ok (.iconst 0, 1) := by decide +kernel
theorem dL_areRanked_301 : decode cL_areRanked 301 = .ok (.iadd, 1) := by decide +kernel
theorem dL_areRanked_302 : decode cL_areRanked 302 = .ok (.istore 12, 2) := by decide +kernel
theorem dL_areRanked_304 : decode cL_areRanked 304 = .ok (.goto (-133), 3) := by decide +kernel
theorem dL_areRanked_307 : decode cL_areRanked 307 = .ok (.iload 10, 2) := by decide +kernel
theorem dL_areRanked_309 : decode cL_areRanked 309 = .ok (.ifCond .eq 17, 3) := by decide +kernel
theorem dL_areRanked_312 : decode cL_areRanked 312 = .ok (.aload_n 0, 1) := by decide +kernel
theorem dL_areRanked_313 : decode cL_areRanked 313 = .ok (.iconst (-1), 1) := by decide +kernel
theorem dL_areRanked_314 : decode cL_areRanked 314 = .ok (.invokevirtual 85, 3) := by decide +kernel
theorem dL_areRanked_317 : decode cL_areRanked 317 = .ok (.iload 12, 2) := by decide +kernel
theorem dL_areRanked_319 : decode cL_areRanked 319 = .ok (.if_icmp .ne 7, 3) := by decide +kernel
theorem dL_areRanked_322 : decode cL_areRanked 322 = .ok (.iconst 1, 1) := by decide +kernel
theorem dL_areRanked_323 : decode cL_areRanked 323 = .ok (.goto 4, 3) := by decide +kernel
theorem dL_areRanked_326 : decode cL_areRanked 326 = .ok (.iconst 0, 1) := by decide +kernel
theorem dL_areRanked_327 : decode cL_areRanked 327 = .ok (.ireturn, 1) := by decide +kernel
set_option maxRecDepth 20000 in
theorem ggL_adds_X4_count : GoodIn wsL_adds wsX4_count := goodIn_ca (goodIn_r _ [6, 7, 8, 9, 10, 11, 12, 13, 14, 15, 16, 17, 18, 19, 20, 21, 22, 23, 24, 25, 26, 27, 28, 29, 30, 31, 32, 33, 34, 35, 36, 37, 38, 39, 40, 41, 42, 43, 44, 45, 46, 47, 48, 49, 50, 51, 104, 105, 106, 107, 108, 109, 110, 111, 112, 113, 114, 115, 116, 117, 118, 119, 120, 121, 122, 123, 124, 125, 126, 127, 128] (by decide +kernel) (by decide +kernel)) (goodIn_sub (fun _ h => List.mem_cons_of_mem _ (List.mem_append_left _ (List.mem_append_right _ h))) (by decide +kernel))
set_option maxRecDepth 20000 in
theorem gL_adds_X4_count : GoodIn wsL_adds (wsV RL 43 RX4 yX4_count wsX4_count) := goodIn_app (goodIn_of _ (by decide +kernel)) ggL_adds_X4_count
set_option maxRecDepth 20000 in
theorem ggL_adds_L_low : GoodIn wsL_adds wsL_low := goodIn_r _ [55, 56] (by decide +kernel) (by decide +kernel)
set_option maxRecDepth 20000 in
theorem gL_adds_L_low : GoodIn wsL_adds (va_wsS RL 88 yL_low wsL_low) := goodIn_app (goodIn_of _ (by decide +kernel)) ggL_adds_L_low
set_option maxRecDepth 20000 in
theorem ggL_adds_X4_block : GoodIn wsL_adds wsX4_block := goodIn_ca (goodIn_ca (goodIn_r _ [60, 61, 62, 63, 9, 15, 64, 65, 5, 66, 7, 8, 67, 68, 69, 22, 70, 24, 71, 72, 73, 74, 75, 76, 77, 78, 79, 80, 81, 82, 83, 84, 85, 86, 87, 88, 89, 90, 51, 30, 91, 25, 92, 93, 94, 95, 96, 97, 98, 99, 100, 101, 102, 103, 104, 105, 106, 107, 108, 109, 110, 111, 112, 113, 114, 115, 116, 117, 118, 119, 120, 121, 122] (by decide +kernel) (by decide +kernel)) (goodIn_sub (fun _ h => List.mem_cons_of_mem _ (List.mem_append_right _ h)) (by decide +kernel))) (goodIn_sub (fun _ h => List.mem_cons_of_mem _ (List.mem_append_left _ (List.mem_append_right _ h))) (by decide +kernel))
set_option maxRecDepth 20000 in
theorem gL_adds_X4_block : GoodIn wsL_adds (wsV RL 92 RX4 yX4_block wsX4_block) := goodIn_app (goodIn_of _ (by decide +kernel)) ggL_adds_X4_block
theorem dL_adds_0 : decode cL_adds 0 = .ok (.aload 6, 2) := by decide +kernel
theorem dL_adds_2 : decode cL_adds 2 = .ok (.bipush 8, 2) := by decide +kernel
theorem dL_adds_4 : decode cL_adds 4 = .ok (.iaload, 1) := by decide +kernel
theorem dL_adds_5 : decode cL_adds 5 = .ok (.bipush 10, 2) := by decide +kernel
theorem dL_adds_7 : decode cL_adds 7 = .ok (.if_icmp .ne 19, 3) := by decide +kernel
theorem dL_adds_10 : decode cL_adds 10 = .ok (.aload_n 0, 1) := by decide +kernel
theorem dL_adds_11 : decode cL_adds 11 = .ok (.iconst 0, 1) := by decide +kernel
theorem dL_adds_12 : decode cL_adds 12 = .ok (.invokevirtual 43, 3) := by decide +kernel
theorem dL_adds_15 : decode cL_adds 15 = .ok (.bipush 10, 2) := by decide +kernel
theorem dL_adds_17 : decode cL_adds 17 = .ok (.if_icmp .ne 7, 3) := by decide +kernel
theorem dL_adds_20 : decode cL_adds 20 = .ok (.iconst 1, 1) := by decide +kernel
theorem dL_adds_21 : decode cL_adds 21 = .ok (.goto 4, 3) := by decide +kernel
theorem dL_adds_24 : decode cL_adds 24 = .ok (.iconst 0, 1) := by decide +kernel
theorem dL_adds_25 : decode cL_adds 25 = .ok (.ireturn, 1) := by decide +kernel
theorem dL_adds_26 : decode cL_adds 26 = .ok (.aload 6, 2) := by decide +kernel
theorem dL_adds_28 : decode cL_adds 28 = .ok (.bipush 8, 2) := by decide +kernel
theorem dL_adds_30 : decode cL_adds 30 = .ok (.iaload, 1) := by decide +kernel
theorem dL_adds_31 : decode cL_adds 31 = .ok (.istore 8, 2) := by decide +kernel
theorem dL_adds_33 : decode cL_adds 33 = .ok (.aload_n 1, 1) := by decide +kernel
theorem dL_adds_34 : decode cL_adds 34 = .ok (.iload 8, 2) := by decide +kernel
theorem dL_adds_36 : decode cL_adds 36 = .ok (.iload 7, 2) := by decide +kernel
theorem dL_adds_38 : decode cL_adds 38 = .ok (.iconst 3, 1) := by decide +kernel
theorem dL_adds_39 : decode cL_adds 39 = .ok (.invokestatic 88, 3) := by decide +kernel
theorem dL_adds_42 : decode cL_adds 42 = .ok (.ifCond .ne 19, 3) := by decide +kernel
theorem dL_adds_45 : decode cL_adds 45 = .ok (.sipush 500, 3) := by decide +kernel
theorem dL_adds_48 : decode cL_adds 48 = .ok (.iload 7, 2) := by decide +kernel
theorem dL_adds_50 : decode cL_adds 50 = .ok (.iconst 4, 1) := by decide +kernel
theorem dL_adds_51 : decode cL_adds 51 = .ok (.ishr, 1) := by decide +kernel
theorem dL_adds_52 : decode cL_adds 52 = .ok (.ldc 91, 2) := by decide +kernel
theorem dL_adds_54 : decode cL_adds 54 = .ok (.invokestatic 88, 3) := by decide +kernel
theorem dL_adds_57 : decode cL_adds 57 = .ok (.iadd, 1) := by decide +kernel
theorem dL_adds_58 : decode cL_adds 58 = .ok (.goto 63, 3) := by decide +kernel
theorem dL_adds_61 : decode cL_adds 61 = .ok (.iload 7, 2) := by decide +kernel
theorem dL_adds_63 : decode cL_adds 63 = .ok (.iconst 3, 1) := by decide +kernel
theorem dL_adds_64 : decode cL_adds 64 = .ok (.invokestatic 88, 3) := by decide +kernel
theorem dL_adds_67 : decode cL_adds 67 = .ok (.iconst 1, 1) := by decide +kernel
theorem dL_adds_68 : decode cL_adds 68 = .ok (.if_icmp .ne 21, 3) := by decide +kernel
theorem dL_adds_71 : decode cL_adds 71 = .ok (.sipush 1000, 3) := by decide +kernel
theorem dL_adds_74 : decode cL_adds 74 = .ok (.iconst 1, 1) := by decide +kernel
theorem dL_adds_75 : decode cL_adds 75 = .ok (.iload 7, 2) := by decide +kernel
theorem dL_adds_77 : decode cL_adds 77 = .ok (.iconst 4, 1) := by decide +kernel
theorem dL_adds_78 : decode cL_adds 78 = .ok (.ishr, 1) := by decide +kernel
theorem dL_adds_79 : decode cL_adds 79 = .ok (.bipush 9, 2) := by decide +kernel
theorem dL_adds_81 : decode cL_adds 81 = .ok (.invokestatic 88, 3) := by decide +kernel
theorem dL_adds_84 : decode cL_adds 84 = .ok (.iadd, 1) := by decide +kernel
theorem dL_adds_85 : decode cL_adds 85 = .ok (.imul, 1) := by decide +kernel
theorem dL_adds_86 : decode cL_adds 86 = .ok (.goto 35, 3) := by decide +kernel
theorem dL_adds_89 : decode cL_adds 89 = .ok (.sipush 1000, 3) := by decide +kernel
theorem dL_adds_92 : decode cL_adds 92 = .ok (.iload 7, 2) := by decide +kernel
theorem dL_adds_94 : decode cL_adds 94 = .ok (.iconst 4, 1) := by decide +kernel
theorem dL_adds_95 : decode cL_adds 95 = .ok (.ishr, 1) := by decide +kernel
theorem dL_adds_96 : decode cL_adds 96 = .ok (.bipush 10, 2) := by decide +kernel
theorem dL_adds_98 : decode cL_adds 98 = .ok (.invokestatic 88, 3) := by decide +kernel
theorem dL_adds_101 : decode cL_adds 101 = .ok (.iload 7, 2) := by decide +kernel
theorem dL_adds_103 : decode cL_adds 103 = .ok (.bipush 9, 2) := by decide +kernel
theorem dL_adds_105 : decode cL_adds 105 = .ok (.ishr, 1) := by decide +kernel
theorem dL_adds_106 : decode cL_adds 106 = .ok (.iconst 2, 1) := by decide +kernel
theorem dL_adds_107 : decode cL_adds 107 = .ok (.invokestatic 88, 3) := by decide +kernel
theorem dL_adds_110 : decode cL_adds 110 = .ok (.ifCond .ne 7, 3) := by decide +kernel
theorem dL_adds_113 : decode cL_adds 113 = .ok (.iconst 1, 1) := by decide +kernel
theorem dL_adds_114 : decode cL_adds 114 = .ok (.goto 5, 3) := by decide +kernel
theorem dL_adds_117 : decode cL_adds 117 = .ok (.bipush 10, 2) := by decide +kernel
theorem dL_adds_119 : decode cL_adds 119 = .ok (.imul, 1) := by decide +kernel
theorem dL_adds_120 : decode cL_adds 120 = .ok (.iadd, 1) := by decide +kernel
theorem dL_adds_121 : decode cL_adds 121 = .ok (.iastore, 1) := by decide +kernel
theorem dL_adds_122 : decode cL_adds 122 = .ok (.aload_n 2, 1) := by decide +kernel
theorem dL_adds_123 : decode cL_adds 123 = .ok (.iload 8, 2) := by decide +kernel
theorem dL_adds_125 : decode cL_adds 125 = .ok (.iload 7, 2) := by decide +kernel
theorem dL_adds_127 : decode cL_adds 127 = .ok (.iconst 3, 1) := by decide +kernel
theorem dL_adds_128 : decode cL_adds 128 = .ok (.ishr, 1) := by decide +kernel
theorem dL_adds_129 : decode cL_adds 129 = .ok (.iconst 4, 1) := by decide +kernel
theorem dL_adds_130 : decode cL_adds 130 = .ok (.invokestatic 88, 3) := by decide +kernel
theorem dL_adds_133 : decode cL_adds 133 = .ok (.ifCond .ne 21, 3) := by decide +kernel
theorem dL_adds_136 : decode cL_adds 136 = .ok (.iload 7, 2) := by decide +kernel
theorem dL_adds_138 : decode cL_adds 138 = .ok (.bipush 6, 2) := by decide +kernel
theorem dL_adds_140 : decode cL_adds 140 = .ok (.ishr, 1) := by decide +kernel
theorem dL_adds_141 : decode cL_adds 141 = .ok (.sipush 1801, 3) := by decide +kernel
theorem dL_adds_144 : decode cL_adds 144 = .ok (.invokestatic 88, 3) := by decide +kernel
theorem dL_adds_147 : decode cL_adds 147 = .ok (.sipush 900, 3) := by decide +kernel
theorem dL_adds_150 : decode cL_adds 150 = .ok (.isub, 1) := by decide +kernel
theorem dL_adds_151 : decode cL_adds 151 = .ok (.goto 18, 3) := by decide +kernel
theorem dL_adds_154 : decode cL_adds 154 = .ok (.iload 7, 2) := by decide +kernel
theorem dL_adds_156 : decode cL_adds 156 = .ok (.bipush 6, 2) := by decide +kernel
theorem dL_adds_158 : decode cL_adds 158 = .ok (.ishr, 1) := by decide +kernel
theorem dL_adds_159 : decode cL_adds 159 = .ok (.sipush 300, 3) := by decide +kernel
theorem dL_adds_162 : decode cL_adds 162 = .ok (.invokestatic 88, 3) := by decide +kernel
theorem dL_adds_165 : decode cL_adds 165 = .ok (.sipush 150, 3) := by decide +kernel
theorem dL_adds_168 : decode cL_adds 168 = .ok (.isub, 1) := by decide +kernel
theorem dL_adds_169 : decode cL_adds 169 = .ok (.iastore, 1) := by decide +kernel
theorem dL_adds_170 : decode cL_adds 170 = .ok (.aload_n 3, 1) := by decide +kernel
theorem dL_adds_171 : decode cL_adds 171 = .ok (.iload 8, 2) := by decide +kernel
theorem dL_adds_173 : decode cL_adds 173 = .ok (.iconst 0, 1) := by decide +kernel
theorem dL_adds_174 : decode cL_adds 174 = .ok (.iastore, 1) := by decide +kernel
theorem dL_adds_175 : decode cL_adds 175 = .ok (.aload 4, 2) := by decide +kernel
theorem dL_adds_177 : decode cL_adds 177 = .ok (.iload 8, 2) := by decide +kernel
theorem dL_adds_179 : decode cL_adds 179 = .ok (.iconst 0, 1) := by decide +kernel
theorem dL_adds_180 : decode cL_adds 180 = .ok (.iastore, 1) := by decide +kernel
theorem dL_adds_181 : decode cL_adds 181 = .ok (.aload 5, 2) := by decide +kernel
theorem dL_adds_183 : decode cL_adds 183 = .ok (.iload 8, 2) := by decide +kernel
theorem dL_adds_185 : decode cL_adds 185 = .ok (.iconst 0, 1) := by decide +kernel
theorem dL_adds_186 : decode cL_adds 186 = .ok (.iastore, 1) := by decide +kernel
theorem dL_adds_187 : decode cL_adds 187 = .ok (.aload 6, 2) := by decide +kernel
theorem dL_adds_189 : decode cL_adds 189 = .ok (.bipush 8, 2) := by decide +kernel
theorem dL_adds_191 : decode cL_adds 191 = .ok (.dup2, 1) := by decide +kernel
theorem dL_adds_192 : decode cL_adds 192 = .ok (.iaload, 1) := by decide +kernel
theorem dL_adds_193 : decode cL_adds 193 = .ok (.iconst 1, 1) := by decide +kernel
theorem dL_adds_194 : decode cL_adds 194 = .ok (.iadd, 1) := by decide +kernel
theorem dL_adds_195 : decode cL_adds 195 = .ok (.iastore, 1) := by decide +kernel
theorem dL_adds_196 : decode cL_adds 196 = .ok (.aload_n 0, 1) := by decide +kernel
theorem dL_adds_197 : decode cL_adds 197 = .ok (.aload_n 1, 1) := by decide +kernel
theorem dL_adds_198 : decode cL_adds 198 = .ok (.iload 8, 2) := by decide +kernel
theorem dL_adds_200 : decode cL_adds 200 = .ok (.iaload, 1) := by decide +kernel
theorem dL_adds_201 : decode cL_adds 201 = .ok (.aload_n 2, 1) := by decide +kernel
theorem dL_adds_202 : decode cL_adds 202 = .ok (.iload 8, 2) := by decide +kernel
theorem dL_adds_204 : decode cL_adds 204 = .ok (.iaload, 1) := by decide +kernel
theorem dL_adds_205 : decode cL_adds 205 = .ok (.invokevirtual 92, 3) := by decide +kernel
theorem dL_adds_208 : decode cL_adds 208 = .ok (.iload 8, 2) := by decide +kernel
theorem dL_adds_210 : decode cL_adds 210 = .ok (.if_icmp .ne 7, 3) := by decide +kernel
theorem dL_adds_213 : decode cL_adds 213 = .ok (.iconst 1, 1) := by decide +kernel
theorem dL_adds_214 : decode cL_adds 214 = .ok (.goto 4, 3) := by decide +kernel
theorem dL_adds_217 : decode cL_adds 217 = .ok (.iconst 0, 1) := by decide +kernel
theorem dL_adds_218 : decode cL_adds 218 = .ok (.ireturn, 1) := by decide +kernel
theorem dL_moves_0 : decode cL_moves 0 = .ok (.iload_n 1, 1) := by decide +kernel
theorem dL_moves_1 : decode cL_moves 1 = .ok (.istore_n 2, 1) := by decide +kernel
theorem dL_moves_2 : decode cL_moves 2 = .ok (.iload_n 2, 1) := by decide +kernel
theorem dL_moves_3 : decode cL_moves 3 = .ok (.bipush 9, 2) := by decide +kernel
theorem dL_moves_5 : decode cL_moves 5 = .ok (.if_icmp .ge 17, 3) := by decide +kernel
theorem dL_moves_8 : decode cL_moves 8 = .ok (.aload_n 0, 1) := by decide +kernel
theorem dL_moves_9 : decode cL_moves 9 = .ok (.iload_n 2, 1) := by decide +kernel
theorem dL_moves_10 : decode cL_moves 10 = .ok (.aload_n 0, 1) := by decide +kernel
theorem dL_moves_11 : decode cL_moves 11 = .ok (.iload_n 2, 1) := by decide +kernel
theorem dL_moves_12 : decode cL_moves 12 = .ok (.iconst 1, 1) := by decide +kernel
theorem dL_moves_13 : decode cL_moves 13 = .ok (.iadd, 1) := by decide +kernel
theorem dL_moves_14 : decode cL_moves 14 = .ok (.iaload, 1) := by decide +kernel
theorem dL_moves_15 : decode cL_moves 15 = .ok (.iastore, 1) := by decide +kernel
theorem dL_moves_16 : decode cL_moves 16 = .ok (.iinc 2 1, 3) := by decide +kernel
theorem dL_moves_19 : decode cL_moves 19 = .ok (.goto (-17), 3) := by decide +kernel
theorem dL_moves_22 : decode cL_moves 22 = .ok (.return_, 1) := by decide +kernel
set_option maxRecDepth 20000 in
theorem ggL_discards_L_where : GoodIn wsL_discards wsL_where := goodIn_r _ [4] (by decide +kernel) (by decide +kernel)
set_option maxRecDepth 20000 in
theorem gL_discards_L_where : GoodIn wsL_discards (va_wsS RL 15 yL_where wsL_where) := goodIn_app (goodIn_of _ (by decide +kernel)) ggL_discards_L_where
set_option maxRecDepth 20000 in
theorem ggL_discards_X4_count : GoodIn wsL_discards wsX4_count := goodIn_ca (goodIn_r _ [9, 10, 11, 12, 13, 14, 15, 16, 17, 18, 19, 20, 21, 22, 23, 24, 25, 26, 27, 28, 29, 30, 31, 32, 33, 34, 35, 36, 37, 38, 39, 40, 41, 42, 43, 44, 45, 46, 47, 48, 49, 50, 51, 52, 53, 54, 118, 119, 120, 121, 122, 123, 124, 125, 126, 127, 128, 129, 130, 131, 132, 133, 134, 135, 136, 137, 138, 139, 140, 141, 142] (by decide +kernel) (by decide +kernel)) (goodIn_sub (fun _ h => List.mem_cons_of_mem _ (List.mem_append_left _ (List.mem_append_left _ (List.mem_append_right _ h)))) (by decide +kernel))
set_option maxRecDepth 20000 in
theorem gL_discards_X4_count : GoodIn wsL_discards (wsV RL 43 RX4 yX4_count wsX4_count) := goodIn_app (goodIn_of _ (by decide +kernel)) ggL_discards_X4_count
set_option maxRecDepth 20000 in
theorem ggL_discards_L_moves : GoodIn wsL_discards wsL_moves := goodIn_r _ [57] (by decide +kernel) (by decide +kernel)
set_option maxRecDepth 20000 in
theorem gL_discards_L_moves : GoodIn wsL_discards (va_wsS RL 95 yL_moves wsL_moves) := goodIn_app (goodIn_of _ (by decide +kernel)) ggL_discards_L_moves
set_option maxRecDepth 20000 in
theorem ggL_discards_X4_discard : GoodIn wsL_discards wsX4_discard := goodIn_ca (goodIn_ca (goodIn_r _ [61, 18, 12, 13, 62, 63, 64, 8, 65, 66, 67, 68, 69, 70, 25, 71, 27, 72, 73, 74, 75, 76, 77, 78, 79, 80, 81, 28, 82, 83, 84, 85, 86, 87, 88, 89, 90, 91, 92, 93, 94, 95, 96, 97, 98, 99, 100, 101, 54, 33, 102, 103, 104, 105, 106, 107, 108, 109, 110, 111, 112, 113, 114, 115, 116, 117, 118, 119, 120, 121, 122, 123, 124, 125, 126, 127, 128, 129, 130, 131, 132, 133, 134, 135, 136] (by decide +kernel) (by decide +kernel)) (goodIn_sub (fun _ h => List.mem_cons_of_mem _ (List.mem_append_left _ (List.mem_append_right _ h))) (by decide +kernel))) (goodIn_sub (fun _ h => List.mem_cons_of_mem _ (List.mem_append_right _ h)) (by decide +kernel))
set_option maxRecDepth 20000 in
theorem gL_discards_X4_discard : GoodIn wsL_discards (wsV RL 99 RX4 yX4_discard wsX4_discard) := goodIn_app (goodIn_of _ (by decide +kernel)) ggL_discards_X4_discard
theorem dL_discards_0 : decode cL_discards 0 = .ok (.iload 8, 2) := by decide +kernel
theorem dL_discards_2 : decode cL_discards 2 = .ok (.aload 6, 2) := by decide +kernel
theorem dL_discards_4 : decode cL_discards 4 = .ok (.bipush 8, 2) := by decide +kernel
theorem dL_discards_6 : decode cL_discards 6 = .ok (.iaload, 1) := by decide +kernel
theorem dL_discards_7 : decode cL_discards 7 = .ok (.if_icmp .ge 14, 3) := by decide +kernel
theorem dL_discards_10 : decode cL_discards 10 = .ok (.aload 7, 2) := by decide +kernel
theorem dL_discards_12 : decode cL_discards 12 = .ok (.iload 8, 2) := by decide +kernel
theorem dL_discards_14 : decode cL_discards 14 = .ok (.invokestatic 15, 3) := by decide +kernel
theorem dL_discards_17 : decode cL_discards 17 = .ok (.iconst (-1), 1) := by decide +kernel
theorem dL_discards_18 : decode cL_discards 18 = .ok (.if_icmp .eq 22, 3) := by decide +kernel
theorem dL_discards_21 : decode cL_discards 21 = .ok (.aload_n 0, 1) := by decide +kernel
theorem dL_discards_22 : decode cL_discards 22 = .ok (.iconst 0, 1) := by decide +kernel
theorem dL_discards_23 : decode cL_discards 23 = .ok (.invokevirtual 43, 3) := by decide +kernel
theorem dL_discards_26 : decode cL_discards 26 = .ok (.aload 6, 2) := by decide +kernel
theorem dL_discards_28 : decode cL_discards 28 = .ok (.bipush 8, 2) := by decide +kernel
theorem dL_discards_30 : decode cL_discards 30 = .ok (.iaload, 1) := by decide +kernel
theorem dL_discards_31 : decode cL_discards 31 = .ok (.if_icmp .ne 7, 3) := by decide +kernel
theorem dL_discards_34 : decode cL_discards 34 = .ok (.iconst 1, 1) := by decide +kernel
theorem dL_discards_35 : decode cL_discards 35 = .ok (.goto 4, 3) := by decide +kernel
theorem dL_discards_38 : decode cL_discards 38 = .ok (.iconst 0, 1) := by decide +kernel
theorem dL_discards_39 : decode cL_discards 39 = .ok (.ireturn, 1) := by decide +kernel
theorem dL_discards_40 : decode cL_discards 40 = .ok (.aload_n 1, 1) := by decide +kernel
theorem dL_discards_41 : decode cL_discards 41 = .ok (.iload 8, 2) := by decide +kernel
theorem dL_discards_43 : decode cL_discards 43 = .ok (.invokestatic 95, 3) := by decide +kernel
theorem dL_discards_46 : decode cL_discards 46 = .ok (.aload_n 2, 1) := by decide +kernel
theorem dL_discards_47 : decode cL_discards 47 = .ok (.iload 8, 2) := by decide +kernel
theorem dL_discards_49 : decode cL_discards 49 = .ok (.invokestatic 95, 3) := by decide +kernel
theorem dL_discards_52 : decode cL_discards 52 = .ok (.aload_n 3, 1) := by decide +kernel
theorem dL_discards_53 : decode cL_discards 53 = .ok (.iload 8, 2) := by decide +kernel
theorem dL_discards_55 : decode cL_discards 55 = .ok (.invokestatic 95, 3) := by decide +kernel
theorem dL_discards_58 : decode cL_discards 58 = .ok (.aload 4, 2) := by decide +kernel
theorem dL_discards_60 : decode cL_discards 60 = .ok (.iload 8, 2) := by decide +kernel
theorem dL_discards_62 : decode cL_discards 62 = .ok (.invokestatic 95, 3) := by decide +kernel
theorem dL_discards_65 : decode cL_discards 65 = .ok (.aload 5, 2) := by decide +kernel
theorem dL_discards_67 : decode cL_discards 67 = .ok (.iload 8, 2) := by decide +kernel
theorem dL_discards_69 : decode cL_discards 69 = .ok (.invokestatic 95, 3) := by decide +kernel
theorem dL_discards_72 : decode cL_discards 72 = .ok (.aload 6, 2) := by decide +kernel
theorem dL_discards_74 : decode cL_discards 74 = .ok (.bipush 8, 2) := by decide +kernel
theorem dL_discards_76 : decode cL_discards 76 = .ok (.dup2, 1) := by decide +kernel
theorem dL_discards_77 : decode cL_discards 77 = .ok (.iaload, 1) := by decide +kernel
theorem dL_discards_78 : decode cL_discards 78 = .ok (.iconst 1, 1) := by decide +kernel
theorem dL_discards_79 : decode cL_discards 79 = .ok (.isub, 1) := by decide +kernel
theorem dL_discards_80 : decode cL_discards 80 = .ok (.iastore, 1) := by decide +kernel
theorem dL_discards_81 : decode cL_discards 81 = .ok (.iconst 0, 1) := by decide +kernel
theorem dL_discards_82 : decode cL_discards 82 = .ok (.istore 9, 2) := by decide +kernel
theorem dL_discards_84 : decode cL_discards 84 = .ok (.iload 9, 2) := by decide +kernel
theorem dL_discards_86 : decode cL_discards 86 = .ok (.bipush 21, 2) := by decide +kernel
theorem dL_discards_88 : decode cL_discards 88 = .ok (.if_icmp .ge 40, 3) := by decide +kernel
theorem dL_discards_91 : decode cL_discards 91 = .ok (.aload 7, 2) := by decide +kernel
theorem dL_discards_93 : decode cL_discards 93 = .ok (.iload 9, 2) := by decide +kernel
theorem dL_discards_95 : decode cL_discards 95 = .ok (.dup2, 1) := by decide +kernel
theorem dL_discards_96 : decode cL_discards 96 = .ok (.iaload, 1) := by decide +kernel
theorem dL_discards_97 : decode cL_discards 97 = .ok (.iload 9, 2) := by decide +kernel
theorem dL_discards_99 : decode cL_discards 99 = .ok (.bipush 7, 2) := by decide +kernel
theorem dL_discards_101 : decode cL_discards 101 = .ok (.irem, 1) := by decide +kernel
theorem dL_discards_102 : decode cL_discards 102 = .ok (.ifCond .le 17, 3) := by decide +kernel
theorem dL_discards_105 : decode cL_discards 105 = .ok (.aload 7, 2) := by decide +kernel
theorem dL_discards_107 : decode cL_discards 107 = .ok (.iload 9, 2) := by decide +kernel
theorem dL_discards_109 : decode cL_discards 109 = .ok (.iaload, 1) := by decide +kernel
theorem dL_discards_110 : decode cL_discards 110 = .ok (.iload 8, 2) := by decide +kernel
theorem dL_discards_112 : decode cL_discards 112 = .ok (.if_icmp .le 7, 3) := by decide +kernel
theorem dL_discards_115 : decode cL_discards 115 = .ok (.iconst 1, 1) := by decide +kernel
theorem dL_discards_116 : decode cL_discards 116 = .ok (.goto 4, 3) := by decide +kernel
theorem dL_discards_119 : decode cL_discards 119 = .ok (.iconst 0, 1) := by decide +kernel
theorem dL_discards_120 : decode cL_discards 120 = .ok (.isub, 1) := by decide +kernel
theorem dL_discards_121 : decode cL_discards 121 = .ok (.iastore, 1) := by decide +kernel
theorem dL_discards_122 : decode cL_discards 122 = .ok (.iinc 9 1, 3) := by decide +kernel
theorem dL_discards_125 : decode cL_discards 125 = .ok (.goto (-41), 3) := by decide +kernel
theorem dL_discards_128 : decode cL_discards 128 = .ok (.aload_n 0, 1) := by decide +kernel
theorem dL_discards_129 : decode cL_discards 129 = .ok (.iload 8, 2) := by decide +kernel
theorem dL_discards_131 : decode cL_discards 131 = .ok (.invokevirtual 99, 3) := by decide +kernel
theorem dL_discards_134 : decode cL_discards 134 = .ok (.aload 6, 2) := by decide +kernel
theorem dL_discards_136 : decode cL_discards 136 = .ok (.bipush 8, 2) := by decide +kernel
theorem dL_discards_138 : decode cL_discards 138 = .ok (.iaload, 1) := by decide +kernel
theorem dL_discards_139 : decode cL_discards 139 = .ok (.if_icmp .ne 7, 3) := by decide +kernel
theorem dL_discards_142 : decode cL_discards 142 = .ok (.iconst 1, 1) := by decide +kernel
theorem dL_discards_143 : decode cL_discards 143 = .ok (.goto 4, 3) := by decide +kernel
theorem dL_discards_146 : decode cL_discards 146 = .ok (.iconst 0, 1) := by decide +kernel
theorem dL_discards_147 : decode cL_discards 147 = .ok (.ireturn, 1) := by decide +kernel
set_option maxRecDepth 20000 in
theorem ggL_makes_X4_stackOf : GoodIn wsL_makes wsX4_stackOf := goodIn_ca (goodIn_ca (goodIn_r _ [5, 6, 7, 8, 9, 10, 4, 11, 12, 13, 14, 15, 16, 17, 18, 19, 20, 21, 22, 23, 24, 25, 26, 27, 28, 29, 30, 31, 32, 33, 34, 35, 36, 37, 38, 39, 40, 41, 42, 43, 44, 45, 46, 47, 48, 49, 50, 51, 52, 53, 54, 55, 56, 57, 58, 59, 60, 61, 62, 63, 64, 65, 66, 67, 68, 69, 70, 71, 72, 73, 74, 75, 76, 77, 78, 79, 80, 81, 82, 83, 84, 85, 86, 199, 200, 201, 202, 203, 204, 205, 206, 207, 208, 209, 210, 211, 212, 213, 214, 215] (by decide +kernel) (by decide +kernel)) (goodIn_sub (fun _ h => List.mem_cons_of_mem _ (List.mem_append_left _ (List.mem_append_left _ (List.mem_append_right _ h)))) (by decide +kernel))) (goodIn_sub (fun _ h => List.mem_cons_of_mem _ (List.mem_append_left _ (List.mem_append_right _ h))) (by decide +kernel))
set_option maxRecDepth 20000 in
theorem gL_makes_X4_stackOf : GoodIn wsL_makes (wsV RL 70 RX4 yX4_stackOf wsX4_stackOf) := goodIn_app (goodIn_of _ (by decide +kernel)) ggL_makes_X4_stackOf
set_option maxRecDepth 20000 in
theorem ggL_makes_L_free : GoodIn wsL_makes wsL_free := goodIn_r _ [90, 91, 92, 89, 93] (by decide +kernel) (by decide +kernel)
set_option maxRecDepth 20000 in
theorem gL_makes_L_free : GoodIn wsL_makes (va_wsS RL 59 yL_free wsL_free) := goodIn_app (goodIn_of _ (by decide +kernel)) ggL_makes_L_free
set_option maxRecDepth 20000 in
theorem ggL_makes_L_fewest : GoodIn wsL_makes wsL_fewest := goodIn_r _ [96, 97, 98, 89, 99, 100, 101, 102] (by decide +kernel) (by decide +kernel)
set_option maxRecDepth 20000 in
theorem gL_makes_L_fewest : GoodIn wsL_makes (va_wsS RL 102 yL_fewest wsL_fewest) := goodIn_app (goodIn_of _ (by decide +kernel)) ggL_makes_L_fewest
set_option maxRecDepth 20000 in
theorem ggL_makes_L_wrings : GoodIn wsL_makes wsL_wrings := goodIn_r _ [105, 106, 107, 89, 108, 91, 92, 93, 109, 110, 111, 112, 113, 114, 115, 116, 117] (by decide +kernel) (by decide +kernel)
set_option maxRecDepth 20000 in
theorem gL_makes_L_wrings : GoodIn wsL_makes (va_wsS RL 106 yL_wrings wsL_wrings) := goodIn_app (goodIn_of _ (by decide +kernel)) ggL_makes_L_wrings
set_option maxRecDepth 20000 in
theorem ggL_makes_X4_make : GoodIn wsL_makes wsX4_make := goodIn_ca (goodIn_ca (goodIn_ca (goodIn_r _ [121, 122, 123, 8, 124, 9, 10, 4, 11, 12, 13, 125, 126, 127, 128, 129, 130, 131, 6, 7, 14, 15, 16, 17, 18, 19, 20, 21, 22, 23, 24, 25, 26, 27, 28, 29, 30, 31, 132, 133, 134, 135, 136, 137, 138, 139, 140, 141, 142, 143, 144, 145, 146, 37, 147, 148, 149, 150, 48, 49, 47, 57, 151, 42, 152, 153, 154, 155, 156, 157, 158, 159, 160, 161, 162, 163, 164, 165, 166, 167, 168, 169, 170, 171, 172, 173, 174, 175, 176, 177, 178, 179, 180, 181, 182, 66, 67, 68, 69, 70, 71, 72, 73, 74, 75, 64, 76, 77, 78, 79, 80, 183, 184, 185, 186, 187, 54, 55, 56, 188, 189, 190, 191, 192, 193, 194, 195, 196, 197, 198, 199, 200, 201, 202, 203, 204, 205, 206, 207, 208, 209, 210, 211, 212, 213, 214, 215, 216, 217] (by decide +kernel) (by decide +kernel)) (goodIn_sub (fun _ h => List.mem_cons_of_mem _ (List.mem_append_right _ h)) (by decide +kernel))) (goodIn_sub (fun _ h => List.mem_cons_of_mem _ (List.mem_append_left _ (List.mem_append_right _ h))) (by decide +kernel))) (goodIn_sub (fun _ h => List.mem_cons_of_mem _ (List.mem_append_left _ (List.mem_append_left _ (List.mem_append_right _ h)))) (by decide +kernel))
set_option maxRecDepth 20000 in
theorem gL_makes_X4_make : GoodIn wsL_makes (wsV RL 110 RX4 yX4_make wsX4_make) := goodIn_app (goodIn_of _ (by decide +kernel)) ggL_makes_X4_make
theorem dL_makes_0 : decode cL_makes 0 = .ok (.aload 7, 2) := by decide +kernel
theorem dL_makes_2 : decode cL_makes 2 = .ok (.bipush 7, 2) := by decide +kernel
theorem dL_makes_4 : decode cL_makes 4 = .ok (.iload 8, 2) := by decide +kernel
theorem dL_makes_6 : decode cL_makes 6 = .ok (.imul, 1) := by decide +kernel
theorem dL_makes_7 : decode cL_makes 7 = .ok (.iaload, 1) := by decide +kernel
theorem dL_makes_8 : decode cL_makes 8 = .ok (.ifCond .le 19, 3) := by decide +kernel
theorem dL_makes_11 : decode cL_makes 11 = .ok (.aload_n 0, 1) := by decide +kernel
theorem dL_makes_12 : decode cL_makes 12 = .ok (.iload 8, 2) := by decide +kernel
theorem dL_makes_14 : decode cL_makes 14 = .ok (.iconst 0, 1) := by decide +kernel
theorem dL_makes_15 : decode cL_makes 15 = .ok (.invokevirtual 70, 3) := by decide +kernel
theorem dL_makes_18 : decode cL_makes 18 = .ok (.ifCond .le 7, 3) := by decide +kernel
theorem dL_makes_21 : decode cL_makes 21 = .ok (.iconst 1, 1) := by decide +kernel
theorem dL_makes_22 : decode cL_makes 22 = .ok (.goto 4, 3) := by decide +kernel
theorem dL_makes_25 : decode cL_makes 25 = .ok (.iconst 0, 1) := by decide +kernel
theorem dL_makes_26 : decode cL_makes 26 = .ok (.ireturn, 1) := by decide +kernel
theorem dL_makes_27 : decode cL_makes 27 = .ok (.aload_n 1, 1) := by decide +kernel
theorem dL_makes_28 : decode cL_makes 28 = .ok (.aload 6, 2) := by decide +kernel
theorem dL_makes_30 : decode cL_makes 30 = .ok (.aload 7, 2) := by decide +kernel
theorem dL_makes_32 : decode cL_makes 32 = .ok (.invokestatic 59, 3) := by decide +kernel
theorem dL_makes_35 : decode cL_makes 35 = .ok (.iload 9, 2) := by decide +kernel
theorem dL_makes_37 : decode cL_makes 37 = .ok (.invokestatic 102, 3) := by decide +kernel
theorem dL_makes_40 : decode cL_makes 40 = .ok (.istore 10, 2) := by decide +kernel
theorem dL_makes_42 : decode cL_makes 42 = .ok (.iconst 0, 1) := by decide +kernel
theorem dL_makes_43 : decode cL_makes 43 = .ok (.istore 11, 2) := by decide +kernel
theorem dL_makes_45 : decode cL_makes 45 = .ok (.iconst 1, 1) := by decide +kernel
theorem dL_makes_46 : decode cL_makes 46 = .ok (.istore 12, 2) := by decide +kernel
theorem dL_makes_48 : decode cL_makes 48 = .ok (.iconst 0, 1) := by decide +kernel
theorem dL_makes_49 : decode cL_makes 49 = .ok (.istore 13, 2) := by decide +kernel
theorem dL_makes_51 : decode cL_makes 51 = .ok (.iload 13, 2) := by decide +kernel
theorem dL_makes_53 : decode cL_makes 53 = .ok (.aload 6, 2) := by decide +kernel
theorem dL_makes_55 : decode cL_makes 55 = .ok (.bipush 8, 2) := by decide +kernel
theorem dL_makes_57 : decode cL_makes 57 = .ok (.iaload, 1) := by decide +kernel
theorem dL_makes_58 : decode cL_makes 58 = .ok (.if_icmp .ge 67, 3) := by decide +kernel
theorem dL_makes_61 : decode cL_makes 61 = .ok (.iload 12, 2) := by decide +kernel
theorem dL_makes_63 : decode cL_makes 63 = .ok (.ifCond .eq 62, 3) := by decide +kernel
theorem dL_makes_66 : decode cL_makes 66 = .ok (.iload 10, 2) := by decide +kernel
theorem dL_makes_68 : decode cL_makes 68 = .ok (.iload 13, 2) := by decide +kernel
theorem dL_makes_70 : decode cL_makes 70 = .ok (.ishr, 1) := by decide +kernel
theorem dL_makes_71 : decode cL_makes 71 = .ok (.iconst 1, 1) := by decide +kernel
theorem dL_makes_72 : decode cL_makes 72 = .ok (.iand, 1) := by decide +kernel
theorem dL_makes_73 : decode cL_makes 73 = .ok (.iconst 1, 1) := by decide +kernel
theorem dL_makes_74 : decode cL_makes 74 = .ok (.if_icmp .ne 45, 3) := by decide +kernel
theorem dL_makes_77 : decode cL_makes 77 = .ok (.aload_n 2, 1) := by decide +kernel
theorem dL_makes_78 : decode cL_makes 78 = .ok (.aload_n 3, 1) := by decide +kernel
theorem dL_makes_79 : decode cL_makes 79 = .ok (.aload 4, 2) := by decide +kernel
theorem dL_makes_81 : decode cL_makes 81 = .ok (.aload 5, 2) := by decide +kernel
theorem dL_makes_83 : decode cL_makes 83 = .ok (.aload 6, 2) := by decide +kernel
theorem dL_makes_85 : decode cL_makes 85 = .ok (.aload 7, 2) := by decide +kernel
theorem dL_makes_87 : decode cL_makes 87 = .ok (.iload 8, 2) := by decide +kernel
theorem dL_makes_89 : decode cL_makes 89 = .ok (.iload 13, 2) := by decide +kernel
theorem dL_makes_91 : decode cL_makes 91 = .ok (.invokestatic 106, 3) := by decide +kernel
theorem dL_makes_94 : decode cL_makes 94 = .ok (.ifCond .ne 7, 3) := by decide +kernel
theorem dL_makes_97 : decode cL_makes 97 = .ok (.iconst 1, 1) := by decide +kernel
theorem dL_makes_98 : decode cL_makes 98 = .ok (.goto 4, 3) := by decide +kernel
theorem dL_makes_101 : decode cL_makes 101 = .ok (.iconst 0, 1) := by decide +kernel
theorem dL_makes_102 : decode cL_makes 102 = .ok (.istore 12, 2) := by decide +kernel
theorem dL_makes_104 : decode cL_makes 104 = .ok (.iload 11, 2) := by decide +kernel
theorem dL_makes_106 : decode cL_makes 106 = .ok (.iload 12, 2) := by decide +kernel
theorem dL_makes_108 : decode cL_makes 108 = .ok (.ifCond .eq 7, 3) := by decide +kernel
theorem dL_makes_111 : decode cL_makes 111 = .ok (.iconst 1, 1) := by decide +kernel
theorem dL_makes_112 : decode cL_makes 112 = .ok (.goto 4, 3) := by decide +kernel
theorem dL_makes_115 : decode cL_makes 115 = .ok (.iconst 0, 1) := by decide +kernel
theorem dL_makes_116 : decode cL_makes 116 = .ok (.iadd, 1) := by decide +kernel
theorem dL_makes_117 : decode cL_makes 117 = .ok (.istore 11, 2) := by decide +kernel
theorem dL_makes_119 : decode cL_makes 119 = .ok (.iinc 13 1, 3) := by decide +kernel
theorem dL_makes_122 : decode cL_makes 122 = .ok (.goto (-71), 3) := by decide +kernel
theorem dL_makes_125 : decode cL_makes 125 = .ok (.aload_n 0, 1) := by decide +kernel
theorem dL_makes_126 : decode cL_makes 126 = .ok (.iload 8, 2) := by decide +kernel
theorem dL_makes_128 : decode cL_makes 128 = .ok (.iload 9, 2) := by decide +kernel
theorem dL_makes_130 : decode cL_makes 130 = .ok (.invokevirtual 110, 3) := by decide +kernel
theorem dL_makes_133 : decode cL_makes 133 = .ok (.iload 10, 2) := by decide +kernel
theorem dL_makes_135 : decode cL_makes 135 = .ok (.ifCond .ne 7, 3) := by decide +kernel
theorem dL_makes_138 : decode cL_makes 138 = .ok (.iconst (-1), 1) := by decide +kernel
theorem dL_makes_139 : decode cL_makes 139 = .ok (.goto 5, 3) := by decide +kernel
theorem dL_makes_142 : decode cL_makes 142 = .ok (.iload 11, 2) := by decide +kernel
theorem dL_makes_144 : decode cL_makes 144 = .ok (.if_icmp .ne 7, 3) := by decide +kernel
theorem dL_makes_147 : decode cL_makes 147 = .ok (.iconst 1, 1) := by decide +kernel
theorem dL_makes_148 : decode cL_makes 148 = .ok (.goto 4, 3) := by decide +kernel
theorem dL_makes_151 : decode cL_makes 151 = .ok (.iconst 0, 1) := by decide +kernel
theorem dL_makes_152 : decode cL_makes 152 = .ok (.ireturn, 1) := by decide +kernel
set_option maxRecDepth 20000 in
theorem ggL_acts_L_low : GoodIn wsL_acts wsL_low := goodIn_r _ [4, 5] (by decide +kernel) (by decide +kernel)
set_option maxRecDepth 20000 in
theorem gL_acts_L_low : GoodIn wsL_acts (va_wsS RL 88 yL_low wsL_low) := goodIn_app (goodIn_of _ (by decide +kernel)) ggL_acts_L_low
set_option maxRecDepth 20000 in
theorem ggL_acts_L_adds : GoodIn wsL_acts wsL_adds := goodIn_ca (goodIn_ca (goodIn_r _ [8, 9, 10, 11, 12, 13, 14, 15, 16, 17, 18, 19, 20, 21, 22, 23, 24, 25, 26, 27, 28, 29, 30, 31, 32, 33, 34, 35, 36, 37, 38, 39, 40, 41, 42, 43, 44, 45, 46, 47, 48, 49, 50, 51, 52, 53, 54, 55, 56, 57, 58, 59, 1, 2, 3, 4, 5, 60, 61, 62, 63, 64, 65, 66, 67, 68, 69, 70, 71, 72, 73, 74, 75, 76, 77, 78, 79, 80, 81, 82, 83, 84, 85, 86, 87, 88, 89, 90, 91, 92, 93, 94, 95, 96, 97, 98, 99, 100, 101, 102, 103, 104, 105, 106, 332, 333, 334, 335, 336, 337, 338, 339, 340, 341, 342, 343, 344, 345, 346, 347, 348, 349, 350, 351, 352, 353, 354, 355, 356] (by decide +kernel) (by decide +kernel)) (goodIn_sub (fun _ h => List.mem_cons_of_mem _ (List.mem_append_left _ (List.mem_append_left _ (List.mem_append_right _ h)))) (by decide +kernel))) (goodIn_sub (fun _ h => List.mem_cons_of_mem _ (List.mem_append_left _ (List.mem_append_right _ h))) (by decide +kernel))
set_option maxRecDepth 20000 in
theorem gL_acts_L_adds : GoodIn wsL_acts (va_wsS RL 113 yL_adds wsL_adds) := goodIn_app (goodIn_of _ (by decide +kernel)) ggL_acts_L_adds
set_option maxRecDepth 20000 in
theorem ggL_acts_L_discards : GoodIn wsL_acts wsL_discards := goodIn_ca (goodIn_ca (goodIn_ca (goodIn_r _ [109, 110, 111, 3, 112, 10, 11, 12, 13, 14, 15, 16, 17, 18, 19, 20, 21, 22, 23, 24, 25, 26, 27, 28, 29, 30, 31, 32, 33, 34, 35, 36, 37, 38, 39, 40, 41, 42, 43, 44, 45, 46, 47, 48, 49, 50, 51, 52, 53, 54, 55, 56, 57, 58, 59, 113, 114, 115, 116, 117, 118, 119, 120, 121, 122, 123, 124, 125, 126, 127, 128, 129, 130, 131, 132, 133, 64, 65, 134, 135, 136, 137, 74, 75, 76, 77, 78, 79, 80, 81, 82, 83, 84, 85, 86, 87, 88, 89, 90, 91, 92, 93, 94, 95, 96, 97, 98, 99, 100, 101, 138, 139, 140, 141, 142, 143, 144, 145, 332, 333, 334, 335, 336, 337, 338, 339, 340, 341, 342, 343, 344, 345, 346, 347, 348, 349, 350, 351, 352, 353, 354, 355, 356] (by decide +kernel) (by decide +kernel)) (goodIn_sub (fun _ h => List.mem_cons_of_mem _ (List.mem_append_left _ (List.mem_append_left _ (List.mem_append_right _ h)))) (by decide +kernel))) (goodIn_sub (fun _ h => List.mem_cons_of_mem _ (List.mem_append_right _ h)) (by decide +kernel))) (goodIn_sub (fun _ h => List.mem_cons_of_mem _ (List.mem_append_left _ (List.mem_append_right _ h))) (by decide +kernel))
set_option maxRecDepth 20000 in
theorem gL_acts_L_discards : GoodIn wsL_acts (va_wsS RL 117 yL_discards wsL_discards) := goodIn_app (goodIn_of _ (by decide +kernel)) ggL_acts_L_discards
set_option maxRecDepth 20000 in
theorem ggL_acts_L_where : GoodIn wsL_acts wsL_where := goodIn_r _ [112] (by decide +kernel) (by decide +kernel)
set_option maxRecDepth 20000 in
theorem gL_acts_L_where : GoodIn wsL_acts (va_wsS RL 15 yL_where wsL_where) := goodIn_app (goodIn_of _ (by decide +kernel)) ggL_acts_L_where
set_option maxRecDepth 20000 in
theorem ggL_acts_X4_calibrate : GoodIn wsL_acts wsX4_calibrate := goodIn_ca (goodIn_ca (goodIn_r _ [149, 23, 17, 120, 121, 122, 13, 123, 124, 125, 126, 127, 128, 30, 129, 32, 130, 131, 132, 133, 64, 65, 134, 135, 136, 137, 33, 74, 75, 76, 77, 78, 79, 80, 81, 82, 83, 84, 85, 86, 87, 88, 89, 90, 91, 92, 93, 59, 38, 94, 95, 96, 97, 98, 99, 100, 101, 150, 151, 152, 153, 154, 155, 53, 156, 55, 56, 57, 58, 157, 44, 45, 46, 47, 48, 49, 50, 51, 52, 54, 332, 333, 334, 335, 336, 337, 338, 339, 340, 341, 342, 343, 344, 345, 346, 347, 348, 349, 350] (by decide +kernel) (by decide +kernel)) (goodIn_sub (fun _ h => List.mem_cons_of_mem _ (List.mem_append_right _ h)) (by decide +kernel))) (goodIn_sub (fun _ h => List.mem_cons_of_mem _ (List.mem_append_left _ (List.mem_append_right _ h))) (by decide +kernel))
set_option maxRecDepth 20000 in
theorem gL_acts_X4_calibrate : GoodIn wsL_acts (wsV RL 121 RX4 yX4_calibrate wsX4_calibrate) := goodIn_app (goodIn_of _ (by decide +kernel)) ggL_acts_X4_calibrate
set_option maxRecDepth 20000 in
theorem ggL_acts_L_grade : GoodIn wsL_acts wsL_grade := goodIn_r _ [160, 161, 162, 3, 163] (by decide +kernel) (by decide +kernel)
set_option maxRecDepth 20000 in
theorem gL_acts_L_grade : GoodIn wsL_acts (va_wsS RL 19 yL_grade wsL_grade) := goodIn_app (goodIn_of _ (by decide +kernel)) ggL_acts_L_grade
set_option maxRecDepth 20000 in
theorem ggL_acts_X4_hold : GoodIn wsL_acts wsX4_hold := goodIn_ca (goodIn_ca (goodIn_r _ [167, 23, 17, 168, 120, 121, 122, 13, 123, 124, 125, 126, 127, 128, 30, 129, 32, 67, 68, 69, 15, 16, 74, 75, 76, 77, 78, 79, 80, 81, 82, 83, 84, 85, 86, 87, 88, 89, 90, 91, 92, 93, 59, 38, 94, 33, 95, 96, 97, 98, 99, 100, 101, 169, 170, 171, 172, 173, 174, 53, 175, 332, 333, 334, 335, 336, 337, 338, 339, 340, 341, 342, 343, 344, 345, 346, 347, 348, 349, 350] (by decide +kernel) (by decide +kernel)) (goodIn_sub (fun _ h => List.mem_cons_of_mem _ (List.mem_append_right _ h)) (by decide +kernel))) (goodIn_sub (fun _ h => List.mem_cons_of_mem _ (List.mem_append_left _ (List.mem_append_left _ (List.mem_append_right _ h)))) (by decide +kernel))
set_option maxRecDepth 20000 in
theorem gL_acts_X4_hold : GoodIn wsL_acts (wsV RL 124 RX4 yX4_hold wsX4_hold) := goodIn_app (goodIn_of _ (by decide +kernel)) ggL_acts_X4_hold
set_option maxRecDepth 20000 in
theorem ggL_acts_L_cool : GoodIn wsL_acts wsL_cool := goodIn_r _ [178] (by decide +kernel) (by decide +kernel)
set_option maxRecDepth 20000 in
theorem gL_acts_L_cool : GoodIn wsL_acts (va_wsS RL 53 yL_cool wsL_cool) := goodIn_app (goodIn_of _ (by decide +kernel)) ggL_acts_L_cool
set_option maxRecDepth 20000 in
theorem ggL_acts_X4_rest : GoodIn wsL_acts wsX4_rest := goodIn_ca (goodIn_r _ [182, 23, 17, 67, 68, 13, 69, 15, 16, 74, 75, 76, 77, 78, 79, 80, 81, 82, 83, 84, 85, 86, 87, 30, 88, 89, 90, 91, 92, 93, 59, 38, 94, 33, 95, 96, 97, 32, 98, 99, 100, 101, 183, 184, 185, 186, 187, 188, 189, 190, 191, 192, 193, 154, 155, 53, 156, 332, 333, 334, 335, 349, 350, 336, 337, 338, 339, 340, 341, 342, 343, 344, 345, 346, 347, 348] (by decide +kernel) (by decide +kernel)) (goodIn_sub (fun _ h => List.mem_cons_of_mem _ (List.mem_append_left _ (List.mem_append_left _ (List.mem_append_right _ h)))) (by decide +kernel))
set_option maxRecDepth 20000 in
theorem gL_acts_X4_rest : GoodIn wsL_acts (wsV RL 127 RX4 yX4_rest wsX4_rest) := goodIn_app (goodIn_of _ (by decide +kernel)) ggL_acts_X4_rest
set_option maxRecDepth 20000 in
theorem ggL_acts_X4_set : GoodIn wsL_acts wsX4_set := goodIn_ca (goodIn_ca (goodIn_r _ [197, 198, 23, 17, 199, 200, 201, 13, 202, 124, 125, 67, 68, 69, 15, 16, 74, 75, 76, 77, 78, 79, 80, 81, 82, 83, 84, 85, 86, 87, 30, 88, 89, 90, 91, 92, 93, 59, 38, 94, 33, 95, 96, 97, 32, 98, 99, 100, 101, 332, 333, 334, 335, 336, 337, 338, 339, 340, 341, 342, 343, 344, 345, 346, 347, 348, 349, 350] (by decide +kernel) (by decide +kernel)) (goodIn_sub (fun _ h => List.mem_cons_of_mem _ (List.mem_append_right _ h)) (by decide +kernel))) (goodIn_sub (fun _ h => List.mem_cons_of_mem _ (List.mem_append_left _ (List.mem_append_left _ (List.mem_append_right _ h)))) (by decide +kernel))
set_option maxRecDepth 20000 in
theorem gL_acts_X4_set : GoodIn wsL_acts (wsV RL 130 RX4 yX4_set wsX4_set) := goodIn_app (goodIn_of _ (by decide +kernel)) ggL_acts_X4_set
set_option maxRecDepth 20000 in
theorem ggL_acts_X4_stackOf : GoodIn wsL_acts wsX4_stackOf := goodIn_ca (goodIn_ca (goodIn_r _ [206, 15, 16, 17, 207, 208, 13, 209, 124, 125, 210, 211, 212, 30, 213, 214, 28, 29, 31, 32, 33, 215, 216, 217, 218, 219, 220, 221, 27, 222, 223, 224, 225, 89, 226, 227, 228, 229, 97, 230, 231, 232, 233, 94, 59, 38, 187, 188, 189, 234, 235, 236, 237, 95, 238, 239, 240, 241, 154, 155, 53, 156, 43, 44, 45, 46, 47, 48, 49, 50, 51, 52, 54, 55, 56, 57, 58, 242, 243, 244, 245, 246, 247, 332, 333, 334, 335, 336, 337, 338, 339, 340, 341, 342, 343, 344, 345, 346, 347, 348] (by decide +kernel) (by decide +kernel)) (goodIn_sub (fun _ h => List.mem_cons_of_mem _ (List.mem_append_left _ (List.mem_append_left _ (List.mem_append_right _ h)))) (by decide +kernel))) (goodIn_sub (fun _ h => List.mem_cons_of_mem _ (List.mem_append_right _ h)) (by decide +kernel))
set_option maxRecDepth 20000 in
theorem gL_acts_X4_stackOf : GoodIn wsL_acts (wsV RL 70 RX4 yX4_stackOf wsX4_stackOf) := goodIn_app (goodIn_of _ (by decide +kernel)) ggL_acts_X4_stackOf
set_option maxRecDepth 20000 in
theorem ggL_acts_L_rubs : GoodIn wsL_acts wsL_rubs := goodIn_r _ [250] (by decide +kernel) (by decide +kernel)
set_option maxRecDepth 20000 in
theorem gL_acts_L_rubs : GoodIn wsL_acts (va_wsS RL 27 yL_rubs wsL_rubs) := goodIn_app (goodIn_of _ (by decide +kernel)) ggL_acts_L_rubs
set_option maxRecDepth 20000 in
theorem ggL_acts_X4_takeOff : GoodIn wsL_acts wsX4_takeOff := goodIn_ca (goodIn_ca (goodIn_r _ [254, 64, 65, 17, 23, 207, 208, 13, 209, 124, 125, 210, 211, 212, 30, 213, 214, 28, 29, 31, 32, 33, 215, 216, 217, 218, 219, 220, 221, 74, 75, 76, 77, 78, 79, 80, 81, 82, 83, 84, 85, 86, 87, 88, 89, 90, 91, 92, 93, 59, 38, 94, 95, 96, 97, 98, 99, 100, 101, 255, 256, 257, 258, 259, 260, 235, 236, 237, 261, 262, 263, 264, 265, 170, 171, 172, 173, 174, 53, 175, 332, 333, 334, 335, 336, 337, 338, 339, 340, 341, 342, 343, 344, 345, 346, 347, 348, 349, 350] (by decide +kernel) (by decide +kernel)) (goodIn_sub (fun _ h => List.mem_cons_of_mem _ (List.mem_append_left _ (List.mem_append_right _ h))) (by decide +kernel))) (goodIn_sub (fun _ h => List.mem_cons_of_mem _ (List.mem_append_right _ h)) (by decide +kernel))
set_option maxRecDepth 20000 in
theorem gL_acts_X4_takeOff : GoodIn wsL_acts (wsV RL 133 RX4 yX4_takeOff wsX4_takeOff) := goodIn_app (goodIn_of _ (by decide +kernel)) ggL_acts_X4_takeOff
set_option maxRecDepth 20000 in
theorem ggL_acts_L_makes : GoodIn wsL_acts wsL_makes := goodIn_ca (goodIn_ca (goodIn_ca (goodIn_r _ [268, 203, 204, 205, 13, 206, 15, 16, 17, 207, 208, 209, 124, 125, 210, 211, 212, 30, 213, 214, 28, 29, 31, 32, 33, 215, 216, 217, 218, 219, 220, 221, 27, 222, 223, 224, 225, 89, 226, 227, 228, 229, 97, 230, 231, 232, 233, 94, 59, 38, 187, 188, 189, 234, 235, 236, 237, 95, 238, 239, 240, 241, 154, 155, 53, 156, 43, 44, 45, 46, 47, 48, 49, 50, 51, 52, 54, 55, 56, 57, 58, 242, 243, 244, 245, 246, 247, 269, 270, 3, 271, 110, 111, 112, 272, 273, 274, 275, 276, 277, 278, 279, 280, 281, 282, 283, 284, 285, 286, 158, 159, 160, 161, 162, 163, 248, 249, 250, 287, 288, 289, 290, 64, 65, 23, 291, 292, 293, 294, 67, 68, 69, 74, 75, 76, 77, 78, 79, 80, 81, 82, 83, 84, 85, 86, 87, 88, 90, 91, 92, 93, 96, 98, 99, 100, 101, 295, 296, 297, 298, 299, 300, 301, 302, 303, 304, 305, 306, 307, 308, 309, 310, 311, 312, 313, 314, 315, 316, 317, 135, 136, 137, 259, 318, 319, 320, 321, 260, 261, 262, 263, 264, 265, 170, 171, 172, 173, 174, 175, 332, 333, 334, 335, 336, 337, 338, 339, 340, 341, 342, 343, 344, 345, 346, 347, 348, 349, 350] (by decide +kernel) (by decide +kernel)) (goodIn_sub (fun _ h => List.mem_cons_of_mem _ (List.mem_append_left _ (List.mem_append_left _ (List.mem_append_right _ h)))) (by decide +kernel))) (goodIn_sub (fun _ h => List.mem_cons_of_mem _ (List.mem_append_right _ h)) (by decide +kernel))) (goodIn_sub (fun _ h => List.mem_cons_of_mem _ (List.mem_append_left _ (List.mem_append_right _ h))) (by decide +kernel))
set_option maxRecDepth 20000 in
theorem gL_acts_L_makes : GoodIn wsL_acts (va_wsS RL 136 yL_makes wsL_makes) := goodIn_app (goodIn_of _ (by decide +kernel)) ggL_acts_L_makes
set_option maxRecDepth 20000 in
theorem ggL_acts_X4_refusal : GoodIn wsL_acts wsX4_refusal := goodIn_ca (goodIn_r _ [325, 17, 207, 208, 13, 209, 124, 125, 120, 121, 122, 123, 126, 127, 128, 30, 129, 32, 326, 314, 315, 316, 94, 97, 317, 135, 136, 137, 33, 259, 211, 212, 213, 214, 28, 29, 31, 215, 216, 217, 218, 219, 220, 221, 43, 44, 45, 46, 47, 48, 49, 50, 51, 52, 53, 54, 55, 56, 57, 58, 59, 38, 332, 333, 334, 335, 336, 337, 338, 339, 340, 341, 342, 343, 344, 345, 346, 347, 348] (by decide +kernel) (by decide +kernel)) (goodIn_sub (fun _ h => List.mem_cons_of_mem _ (List.mem_append_right _ h)) (by decide +kernel))
set_option maxRecDepth 20000 in
theorem gL_acts_X4_refusal : GoodIn wsL_acts (wsV RL 140 RX4 yX4_refusal wsX4_refusal) := goodIn_app (goodIn_of _ (by decide +kernel)) ggL_acts_X4_refusal
set_option maxRecDepth 20000 in
theorem ggL_acts_L_reason : GoodIn wsL_acts wsL_reason := goodIn_r _ [286, 110, 111, 3, 112, 158, 159, 160, 161, 162, 163] (by decide +kernel) (by decide +kernel)
set_option maxRecDepth 20000 in
theorem gL_acts_L_reason : GoodIn wsL_acts (va_wsS RL 23 yL_reason wsL_reason) := goodIn_app (goodIn_of _ (by decide +kernel)) ggL_acts_L_reason
set_option maxRecDepth 20000 in
theorem ggL_acts_X4_wring : GoodIn wsL_acts wsX4_wring := goodIn_ca (goodIn_r _ [330, 23, 17, 207, 208, 13, 209, 124, 125, 120, 121, 122, 123, 126, 127, 128, 30, 129, 32, 74, 75, 76, 77, 78, 79, 80, 81, 82, 83, 84, 85, 86, 87, 88, 89, 90, 91, 92, 93, 59, 38, 94, 33, 95, 96, 97, 98, 99, 100, 101, 331, 310, 311, 312, 313, 314, 315, 316, 317, 135, 136, 137, 259, 211, 212, 213, 214, 28, 29, 31, 215, 216, 217, 218, 219, 220, 221, 43, 44, 45, 46, 47, 48, 49, 50, 51, 52, 53, 54, 55, 56, 57, 58, 318, 319, 320, 321, 260, 235, 236, 237, 261, 262, 263, 264, 265, 170, 171, 172, 173, 174, 175, 332, 333, 334, 335, 336, 337, 338, 339, 340, 341, 342, 343, 344, 345, 346, 347, 348, 349, 350] (by decide +kernel) (by decide +kernel)) (goodIn_sub (fun _ h => List.mem_cons_of_mem _ (List.mem_append_right _ h)) (by decide +kernel))
set_option maxRecDepth 20000 in
theorem gL_acts_X4_wring : GoodIn wsL_acts (wsV RL 143 RX4 yX4_wring wsX4_wring) := goodIn_app (goodIn_of _ (by decide +kernel)) ggL_acts_X4_wring
set_option maxRecDepth 20000 in
theorem ggL_acts_L_wrings : GoodIn wsL_acts wsL_wrings := goodIn_r _ [283, 284, 285, 3, 286, 110, 111, 112, 158, 159, 160, 161, 162, 163, 248, 249, 250] (by decide +kernel) (by decide +kernel)
set_option maxRecDepth 20000 in
theorem gL_acts_L_wrings : GoodIn wsL_acts (va_wsS RL 106 yL_wrings wsL_wrings) := goodIn_app (goodIn_of _ (by decide +kernel)) ggL_acts_L_wrings
theorem dL_acts_0 : decode cL_acts 0 = .ok (.aload 6, 2) := by decide +kernel
theorem dL_acts_2 : decode cL_acts 2 = .ok (.bipush 8, 2) := by decide +kernel
theorem dL_acts_4 : decode cL_acts 4 = .ok (.iaload, 1) := by decide +kernel
theorem dL_acts_5 : decode cL_acts 5 = .ok (.ifCond .ne 7, 3) := by decide +kernel
theorem dL_acts_8 : decode cL_acts 8 = .ok (.iconst (-1), 1) := by decide +kernel
theorem dL_acts_9 : decode cL_acts 9 = .ok (.goto 13, 3) := by decide +kernel
theorem dL_acts_12 : decode cL_acts 12 = .ok (.iload 9, 2) := by decide +kernel
theorem dL_acts_14 : decode cL_acts 14 = .ok (.aload 6, 2) := by decide +kernel
theorem dL_acts_16 : decode cL_acts 16 = .ok (.bipush 8, 2) := by decide +kernel
theorem dL_acts_18 : decode cL_acts 18 = .ok (.iaload, 1) := by decide +kernel
theorem dL_acts_19 : decode cL_acts 19 = .ok (.invokestatic 88, 3) := by decide +kernel
theorem dL_acts_22 : decode cL_acts 22 = .ok (.istore 10, 2) := by decide +kernel
theorem dL_acts_24 : decode cL_acts 24 = .ok (.iload 9, 2) := by decide +kernel
theorem dL_acts_26 : decode cL_acts 26 = .ok (.iconst 5, 1) := by decide +kernel
theorem dL_acts_27 : decode cL_acts 27 = .ok (.ishr, 1) := by decide +kernel
theorem dL_acts_28 : decode cL_acts 28 = .ok (.iconst 3, 1) := by decide +kernel
theorem dL_acts_29 : decode cL_acts 29 = .ok (.invokestatic 88, 3) := by decide +kernel
theorem dL_acts_32 : decode cL_acts 32 = .ok (.istore 11, 2) := by decide +kernel
theorem dL_acts_34 : decode cL_acts 34 = .ok (.iload 8, 2) := by decide +kernel
theorem dL_acts_36 : decode cL_acts 36 = .ok (.tableswitch 624 0 8 #[52, 68, 91, 171, 252, 365, 471, 471, 568], 52) := by decide +kernel
theorem dL_acts_88 : decode cL_acts 88 = .ok (.aload_n 0, 1) := by decide +kernel
theorem dL_acts_89 : decode cL_acts 89 = .ok (.aload_n 1, 1) := by decide +kernel
theorem dL_acts_90 : decode cL_acts 90 = .ok (.aload_n 2, 1) := by decide +kernel
theorem dL_acts_91 : decode cL_acts 91 = .ok (.aload_n 3, 1) := by decide +kernel
theorem dL_acts_92 : decode cL_acts 92 = .ok (.aload 4, 2) := by decide +kernel
theorem dL_acts_94 : decode cL_acts 94 = .ok (.aload 5, 2) := by decide +kernel
theorem dL_acts_96 : decode cL_acts 96 = .ok (.aload 6, 2) := by decide +kernel
theorem dL_acts_98 : decode cL_acts 98 = .ok (.iload 9, 2) := by decide +kernel
theorem dL_acts_100 : decode cL_acts 100 = .ok (.invokestatic 113, 3) := by decide +kernel
theorem dL_acts_103 : decode cL_acts 103 = .ok (.ireturn, 1) := by decide +kernel
theorem dL_acts_104 : decode cL_acts 104 = .ok (.aload_n 0, 1) := by decide +kernel
theorem dL_acts_105 : decode cL_acts 105 = .ok (.aload_n 1, 1) := by decide +kernel
theorem dL_acts_106 : decode cL_acts 106 = .ok (.aload_n 2, 1) := by decide +kernel
theorem dL_acts_107 : decode cL_acts 107 = .ok (.aload_n 3, 1) := by decide +kernel
theorem dL_acts_108 : decode cL_acts 108 = .ok (.aload 4, 2) := by decide +kernel
theorem dL_acts_110 : decode cL_acts 110 = .ok (.aload 5, 2) := by decide +kernel
theorem dL_acts_112 : decode cL_acts 112 = .ok (.aload 6, 2) := by decide +kernel
theorem dL_acts_114 : decode cL_acts 114 = .ok (.aload 7, 2) := by decide +kernel
theorem dL_acts_116 : decode cL_acts 116 = .ok (.iload 9, 2) := by decide +kernel
theorem dL_acts_118 : decode cL_acts 118 = .ok (.bipush 10, 2) := by decide +kernel
theorem dL_acts_120 : decode cL_acts 120 = .ok (.invokestatic 88, 3) := by decide +kernel
theorem dL_acts_123 : decode cL_acts 123 = .ok (.invokestatic 117, 3) := by decide +kernel
theorem dL_acts_126 : decode cL_acts 126 = .ok (.ireturn, 1) := by decide +kernel
theorem dL_acts_127 : decode cL_acts 127 = .ok (.iload 10, 2) := by decide +kernel
theorem dL_acts_129 : decode cL_acts 129 = .ok (.iconst (-1), 1) := by decide +kernel
theorem dL_acts_130 : decode cL_acts 130 = .ok (.if_icmp .eq 14, 3) := by decide +kernel
theorem dL_acts_133 : decode cL_acts 133 = .ok (.aload 7, 2) := by decide +kernel
theorem dL_acts_135 : decode cL_acts 135 = .ok (.iload 10, 2) := by decide +kernel
theorem dL_acts_137 : decode cL_acts 137 = .ok (.invokestatic 15, 3) := by decide +kernel
theorem dL_acts_140 : decode cL_acts 140 = .ok (.iconst (-1), 1) := by decide +kernel
theorem dL_acts_141 : decode cL_acts 141 = .ok (.if_icmp .eq 5, 3) := by decide +kernel
theorem dL_acts_144 : decode cL_acts 144 = .ok (.iconst 1, 1) := by decide +kernel
theorem dL_acts_145 : decode cL_acts 145 = .ok (.ireturn, 1) := by decide +kernel
theorem dL_acts_146 : decode cL_acts 146 = .ok (.aload_n 2, 1) := by decide +kernel
theorem dL_acts_147 : decode cL_acts 147 = .ok (.iload 10, 2) := by decide +kernel
theorem dL_acts_149 : decode cL_acts 149 = .ok (.aload_n 2, 1) := by decide +kernel
theorem dL_acts_150 : decode cL_acts 150 = .ok (.iload 10, 2) := by decide +kernel
theorem dL_acts_152 : decode cL_acts 152 = .ok (.iaload, 1) := by decide +kernel
theorem dL_acts_153 : decode cL_acts 153 = .ok (.aload_n 3, 1) := by decide +kernel
theorem dL_acts_154 : decode cL_acts 154 = .ok (.iload 10, 2) := by decide +kernel
theorem dL_acts_156 : decode cL_acts 156 = .ok (.iaload, 1) := by decide +kernel
theorem dL_acts_157 : decode cL_acts 157 = .ok (.isub, 1) := by decide +kernel
theorem dL_acts_158 : decode cL_acts 158 = .ok (.sipush (-900), 3) := by decide +kernel
theorem dL_acts_161 : decode cL_acts 161 = .ok (.if_icmp .ge 9, 3) := by decide +kernel
theorem dL_acts_164 : decode cL_acts 164 = .ok (.sipush (-900), 3) := by decide +kernel
theorem dL_acts_167 : decode cL_acts 167 = .ok (.goto 12, 3) := by decide +kernel
theorem dL_acts_170 : decode cL_acts 170 = .ok (.aload_n 2, 1) := by decide +kernel
theorem dL_acts_171 : decode cL_acts 171 = .ok (.iload 10, 2) := by decide +kernel
theorem dL_acts_173 : decode cL_acts 173 = .ok (.iaload, 1) := by decide +kernel
theorem dL_acts_174 : decode cL_acts 174 = .ok (.aload_n 3, 1) := by decide +kernel
theorem dL_acts_175 : decode cL_acts 175 = .ok (.iload 10, 2) := by decide +kernel
theorem dL_acts_177 : decode cL_acts 177 = .ok (.iaload, 1) := by decide +kernel
theorem dL_acts_178 : decode cL_acts 178 = .ok (.isub, 1) := by decide +kernel
theorem dL_acts_179 : decode cL_acts 179 = .ok (.iastore, 1) := by decide +kernel
theorem dL_acts_180 : decode cL_acts 180 = .ok (.aload_n 3, 1) := by decide +kernel
theorem dL_acts_181 : decode cL_acts 181 = .ok (.iload 10, 2) := by decide +kernel
theorem dL_acts_183 : decode cL_acts 183 = .ok (.iconst 0, 1) := by decide +kernel
theorem dL_acts_184 : decode cL_acts 184 = .ok (.iastore, 1) := by decide +kernel
theorem dL_acts_185 : decode cL_acts 185 = .ok (.aload_n 0, 1) := by decide +kernel
theorem dL_acts_186 : decode cL_acts 186 = .ok (.iload 10, 2) := by decide +kernel
theorem dL_acts_188 : decode cL_acts 188 = .ok (.invokevirtual 121, 3) := by decide +kernel
theorem dL_acts_191 : decode cL_acts 191 = .ok (.aload_n 2, 1) := by decide +kernel
theorem dL_acts_192 : decode cL_acts 192 = .ok (.aload_n 3, 1) := by decide +kernel
theorem dL_acts_193 : decode cL_acts 193 = .ok (.iload 10, 2) := by decide +kernel
theorem dL_acts_195 : decode cL_acts 195 = .ok (.invokestatic 19, 3) := by decide +kernel
theorem dL_acts_198 : decode cL_acts 198 = .ok (.if_icmp .ne 7, 3) := by decide +kernel
theorem dL_acts_201 : decode cL_acts 201 = .ok (.iconst 1, 1) := by decide +kernel
theorem dL_acts_202 : decode cL_acts 202 = .ok (.goto 4, 3) := by decide +kernel
theorem dL_acts_205 : decode cL_acts 205 = .ok (.iconst 0, 1) := by decide +kernel
theorem dL_acts_206 : decode cL_acts 206 = .ok (.ireturn, 1) := by decide +kernel
theorem dL_acts_207 : decode cL_acts 207 = .ok (.iload 10, 2) := by decide +kernel
theorem dL_acts_209 : decode cL_acts 209 = .ok (.iconst (-1), 1) := by decide +kernel
theorem dL_acts_210 : decode cL_acts 210 = .ok (.if_icmp .ne 5, 3) := by decide +kernel
theorem dL_acts_213 : decode cL_acts 213 = .ok (.iconst 1, 1) := by decide +kernel
theorem dL_acts_214 : decode cL_acts 214 = .ok (.ireturn, 1) := by decide +kernel
theorem dL_acts_215 : decode cL_acts 215 = .ok (.iconst 1, 1) := by decide +kernel
theorem dL_acts_216 : decode cL_acts 216 = .ok (.iload 9, 2) := by decide +kernel
theorem dL_acts_218 : decode cL_acts 218 = .ok (.bipush 7, 2) := by decide +kernel
theorem dL_acts_220 : decode cL_acts 220 = .ok (.ishr, 1) := by decide +kernel
theorem dL_acts_221 : decode cL_acts 221 = .ok (.bipush 60, 2) := by decide +kernel
theorem dL_acts_223 : decode cL_acts 223 = .ok (.invokestatic 88, 3) := by decide +kernel
theorem dL_acts_226 : decode cL_acts 226 = .ok (.iadd, 1) := by decide +kernel
theorem dL_acts_227 : decode cL_acts 227 = .ok (.istore 12, 2) := by decide +kernel
theorem dL_acts_229 : decode cL_acts 229 = .ok (.aload 4, 2) := by decide +kernel
theorem dL_acts_231 : decode cL_acts 231 = .ok (.iload 10, 2) := by decide +kernel
theorem dL_acts_233 : decode cL_acts 233 = .ok (.aload 4, 2) := by decide +kernel
theorem dL_acts_235 : decode cL_acts 235 = .ok (.iload 10, 2) := by decide +kernel
theorem dL_acts_237 : decode cL_acts 237 = .ok (.iaload, 1) := by decide +kernel
theorem dL_acts_238 : decode cL_acts 238 = .ok (.iconst 5, 1) := by decide +kernel
theorem dL_acts_239 : decode cL_acts 239 = .ok (.iload 12, 2) := by decide +kernel
theorem dL_acts_241 : decode cL_acts 241 = .ok (.imul, 1) := by decide +kernel
theorem dL_acts_242 : decode cL_acts 242 = .ok (.iadd, 1) := by decide +kernel
theorem dL_acts_243 : decode cL_acts 243 = .ok (.sipush 1000, 3) := by decide +kernel
theorem dL_acts_246 : decode cL_acts 246 = .ok (.if_icmp .le 9, 3) := by decide +kernel
theorem dL_acts_249 : decode cL_acts 249 = .ok (.sipush 1000, 3) := by decide +kernel
theorem dL_acts_252 : decode cL_acts 252 = .ok (.goto 13, 3) := by decide +kernel
theorem dL_acts_255 : decode cL_acts 255 = .ok (.aload 4, 2) := by decide +kernel
theorem dL_acts_257 : decode cL_acts 257 = .ok (.iload 10, 2) := by decide +kernel
theorem dL_acts_259 : decode cL_acts 259 = .ok (.iaload, 1) := by decide +kernel
theorem dL_acts_260 : decode cL_acts 260 = .ok (.iconst 5, 1) := by decide +kernel
theorem dL_acts_261 : decode cL_acts 261 = .ok (.iload 12, 2) := by decide +kernel
theorem dL_acts_263 : decode cL_acts 263 = .ok (.imul, 1) := by decide +kernel
theorem dL_acts_264 : decode cL_acts 264 = .ok (.iadd, 1) := by decide +kernel
theorem dL_acts_265 : decode cL_acts 265 = .ok (.iastore, 1) := by decide +kernel
theorem dL_acts_266 : decode cL_acts 266 = .ok (.aload_n 0, 1) := by decide +kernel
theorem dL_acts_267 : decode cL_acts 267 = .ok (.iload 10, 2) := by decide +kernel
theorem dL_acts_269 : decode cL_acts 269 = .ok (.iload 12, 2) := by decide +kernel
theorem dL_acts_271 : decode cL_acts 271 = .ok (.invokevirtual 124, 3) := by decide +kernel
theorem dL_acts_274 : decode cL_acts 274 = .ok (.aload 4, 2) := by decide +kernel
theorem dL_acts_276 : decode cL_acts 276 = .ok (.iload 10, 2) := by decide +kernel
theorem dL_acts_278 : decode cL_acts 278 = .ok (.iaload, 1) := by decide +kernel
theorem dL_acts_279 : decode cL_acts 279 = .ok (.if_icmp .ne 7, 3) := by decide +kernel
theorem dL_acts_282 : decode cL_acts 282 = .ok (.iconst 1, 1) := by decide +kernel
theorem dL_acts_283 : decode cL_acts 283 = .ok (.goto 4, 3) := by decide +kernel
theorem dL_acts_286 : decode cL_acts 286 = .ok (.iconst 0, 1) := by decide +kernel
theorem dL_acts_287 : decode cL_acts 287 = .ok (.ireturn, 1) := by decide +kernel
theorem dL_acts_288 : decode cL_acts 288 = .ok (.iconst 1, 1) := by decide +kernel
theorem dL_acts_289 : decode cL_acts 289 = .ok (.iload 9, 2) := by decide +kernel
theorem dL_acts_291 : decode cL_acts 291 = .ok (.iload 9, 2) := by decide +kernel
theorem dL_acts_293 : decode cL_acts 293 = .ok (.bipush 7, 2) := by decide +kernel
theorem dL_acts_295 : decode cL_acts 295 = .ok (.ishr, 1) := by decide +kernel
theorem dL_acts_296 : decode cL_acts 296 = .ok (.iconst 2, 1) := by decide +kernel
theorem dL_acts_297 : decode cL_acts 297 = .ok (.invokestatic 88, 3) := by decide +kernel
theorem dL_acts_300 : decode cL_acts 300 = .ok (.ifCond .ne 8, 3) := by decide +kernel
theorem dL_acts_303 : decode cL_acts 303 = .ok (.bipush 60, 2) := by decide +kernel
theorem dL_acts_305 : decode cL_acts 305 = .ok (.goto 5, 3) := by decide +kernel
theorem dL_acts_308 : decode cL_acts 308 = .ok (.bipush 6, 2) := by decide +kernel
theorem dL_acts_310 : decode cL_acts 310 = .ok (.invokestatic 88, 3) := by decide +kernel
theorem dL_acts_313 : decode cL_acts 313 = .ok (.iadd, 1) := by decide +kernel
theorem dL_acts_314 : decode cL_acts 314 = .ok (.istore 13, 2) := by decide +kernel
theorem dL_acts_316 : decode cL_acts 316 = .ok (.iconst 0, 1) := by decide +kernel
theorem dL_acts_317 : decode cL_acts 317 = .ok (.istore 14, 2) := by decide +kernel
theorem dL_acts_319 : decode cL_acts 319 = .ok (.iconst 0, 1) := by decide +kernel
theorem dL_acts_320 : decode cL_acts 320 = .ok (.istore 15, 2) := by decide +kernel
theorem dL_acts_322 : decode cL_acts 322 = .ok (.iload 15, 2) := by decide +kernel
theorem dL_acts_324 : decode cL_acts 324 = .ok (.aload 6, 2) := by decide +kernel
theorem dL_acts_326 : decode cL_acts 326 = .ok (.bipush 8, 2) := by decide +kernel
theorem dL_acts_328 : decode cL_acts 328 = .ok (.iaload, 1) := by decide +kernel
theorem dL_acts_329 : decode cL_acts 329 = .ok (.if_icmp .ge 46, 3) := by decide +kernel
theorem dL_acts_332 : decode cL_acts 332 = .ok (.aload 4, 2) := by decide +kernel
theorem dL_acts_334 : decode cL_acts 334 = .ok (.iload 15, 2) := by decide +kernel
theorem dL_acts_336 : decode cL_acts 336 = .ok (.aload 4, 2) := by decide +kernel
theorem dL_acts_338 : decode cL_acts 338 = .ok (.iload 15, 2) := by decide +kernel
theorem dL_acts_340 : decode cL_acts 340 = .ok (.iaload, 1) := by decide +kernel
theorem dL_acts_341 : decode cL_acts 341 = .ok (.iload 13, 2) := by decide +kernel
theorem dL_acts_343 : decode cL_acts 343 = .ok (.invokestatic 53, 3) := by decide +kernel
theorem dL_acts_346 : decode cL_acts 346 = .ok (.iastore, 1) := by decide +kernel
theorem dL_acts_347 : decode cL_acts 347 = .ok (.aload 4, 2) := by decide +kernel
theorem dL_acts_349 : decode cL_acts 349 = .ok (.iload 15, 2) := by decide +kernel
theorem dL_acts_351 : decode cL_acts 351 = .ok (.iaload, 1) := by decide +kernel
theorem dL_acts_352 : decode cL_acts 352 = .ok (.iload 14, 2) := by decide +kernel
theorem dL_acts_354 : decode cL_acts 354 = .ok (.if_icmp .le 11, 3) := by decide +kernel
theorem dL_acts_357 : decode cL_acts 357 = .ok (.aload 4, 2) := by decide +kernel
theorem dL_acts_359 : decode cL_acts 359 = .ok (.iload 15, 2) := by decide +kernel
theorem dL_acts_361 : decode cL_acts 361 = .ok (.iaload, 1) := by decide +kernel
theorem dL_acts_362 : decode cL_acts 362 = .ok (.goto 5, 3) := by decide +kernel
theorem dL_acts_365 : decode cL_acts 365 = .ok (.iload 14, 2) := by decide +kernel
theorem dL_acts_367 : decode cL_acts 367 = .ok (.istore 14, 2) := by decide +kernel
theorem dL_acts_369 : decode cL_acts 369 = .ok (.iinc 15 1, 3) := by decide +kernel
theorem dL_acts_372 : decode cL_acts 372 = .ok (.goto (-50), 3) := by decide +kernel
theorem dL_acts_375 : decode cL_acts 375 = .ok (.aload 6, 2) := by decide +kernel
theorem dL_acts_377 : decode cL_acts 377 = .ok (.iconst 4, 1) := by decide +kernel
theorem dL_acts_378 : decode cL_acts 378 = .ok (.dup2, 1) := by decide +kernel
theorem dL_acts_379 : decode cL_acts 379 = .ok (.iaload, 1) := by decide +kernel
theorem dL_acts_380 : decode cL_acts 380 = .ok (.iload 13, 2) := by decide +kernel
theorem dL_acts_382 : decode cL_acts 382 = .ok (.iadd, 1) := by decide +kernel
theorem dL_acts_383 : decode cL_acts 383 = .ok (.iastore, 1) := by decide +kernel
theorem dL_acts_384 : decode cL_acts 384 = .ok (.aload_n 0, 1) := by decide +kernel
theorem dL_acts_385 : decode cL_acts 385 = .ok (.iload 13, 2) := by decide +kernel
theorem dL_acts_387 : decode cL_acts 387 = .ok (.invokevirtual 127, 3) := by decide +kernel
theorem dL_acts_390 : decode cL_acts 390 = .ok (.iload 14, 2) := by decide +kernel
theorem dL_acts_392 : decode cL_acts 392 = .ok (.if_icmp .ne 7, 3) := by decide +kernel
theorem dL_acts_395 : decode cL_acts 395 = .ok (.iconst 1, 1) := by decide +kernel
theorem dL_acts_396 : decode cL_acts 396 = .ok (.goto 4, 3) := by decide +kernel
theorem dL_acts_399 : decode cL_acts 399 = .ok (.iconst 0, 1) := by decide +kernel
theorem dL_acts_400 : decode cL_acts 400 = .ok (.ireturn, 1) := by decide +kernel
theorem dL_acts_401 : decode cL_acts 401 = .ok (.iload 9, 2) := by decide +kernel
theorem dL_acts_403 : decode cL_acts 403 = .ok (.iconst 4, 1) := by decide +kernel
theorem dL_acts_404 : decode cL_acts 404 = .ok (.invokestatic 88, 3) := by decide +kernel
theorem dL_acts_407 : decode cL_acts 407 = .ok (.istore 15, 2) := by decide +kernel
theorem dL_acts_409 : decode cL_acts 409 = .ok (.aload 6, 2) := by decide +kernel
theorem dL_acts_411 : decode cL_acts 411 = .ok (.iload 15, 2) := by decide +kernel
theorem dL_acts_413 : decode cL_acts 413 = .ok (.iaload, 1) := by decide +kernel
theorem dL_acts_414 : decode cL_acts 414 = .ok (.istore 16, 2) := by decide +kernel
theorem dL_acts_416 : decode cL_acts 416 = .ok (.aload 6, 2) := by decide +kernel
theorem dL_acts_418 : decode cL_acts 418 = .ok (.iload 15, 2) := by decide +kernel
theorem dL_acts_420 : decode cL_acts 420 = .ok (.iload 15, 2) := by decide +kernel
theorem dL_acts_422 : decode cL_acts 422 = .ok (.ifCond .ne 15, 3) := by decide +kernel
theorem dL_acts_425 : decode cL_acts 425 = .ok (.iload 9, 2) := by decide +kernel
theorem dL_acts_427 : decode cL_acts 427 = .ok (.iconst 2, 1) := by decide +kernel
theorem dL_acts_428 : decode cL_acts 428 = .ok (.ishr, 1) := by decide +kernel
theorem dL_acts_429 : decode cL_acts 429 = .ok (.bipush 61, 2) := by decide +kernel
theorem dL_acts_431 : decode cL_acts 431 = .ok (.invokestatic 88, 3) := by decide +kernel
theorem dL_acts_434 : decode cL_acts 434 = .ok (.goto 50, 3) := by decide +kernel
theorem dL_acts_437 : decode cL_acts 437 = .ok (.iload 15, 2) := by decide +kernel
theorem dL_acts_439 : decode cL_acts 439 = .ok (.iconst 1, 1) := by decide +kernel
theorem dL_acts_440 : decode cL_acts 440 = .ok (.if_icmp .ne 16, 3) := by decide +kernel
theorem dL_acts_443 : decode cL_acts 443 = .ok (.iload 9, 2) := by decide +kernel
theorem dL_acts_445 : decode cL_acts 445 = .ok (.iconst 2, 1) := by decide +kernel
theorem dL_acts_446 : decode cL_acts 446 = .ok (.ishr, 1) := by decide +kernel
theorem dL_acts_447 : decode cL_acts 447 = .ok (.sipush 1001, 3) := by decide +kernel
theorem dL_acts_450 : decode cL_acts 450 = .ok (.invokestatic 88, 3) := by decide +kernel
theorem dL_acts_453 : decode cL_acts 453 = .ok (.goto 31, 3) := by decide +kernel
theorem dL_acts_456 : decode cL_acts 456 = .ok (.iload 15, 2) := by decide +kernel
theorem dL_acts_458 : decode cL_acts 458 = .ok (.iconst 2, 1) := by decide +kernel
theorem dL_acts_459 : decode cL_acts 459 = .ok (.if_icmp .ne 15, 3) := by decide +kernel
theorem dL_acts_462 : decode cL_acts 462 = .ok (.iload 9, 2) := by decide +kernel
theorem dL_acts_464 : decode cL_acts 464 = .ok (.iconst 2, 1) := by decide +kernel
theorem dL_acts_465 : decode cL_acts 465 = .ok (.ishr, 1) := by decide +kernel
theorem dL_acts_466 : decode cL_acts 466 = .ok (.bipush 21, 2) := by decide +kernel
theorem dL_acts_468 : decode cL_acts 468 = .ok (.invokestatic 88, 3) := by decide +kernel
theorem dL_acts_471 : decode cL_acts 471 = .ok (.goto 13, 3) := by decide +kernel
theorem dL_acts_474 : decode cL_acts 474 = .ok (.iload 9, 2) := by decide +kernel
theorem dL_acts_476 : decode cL_acts 476 = .ok (.iconst 2, 1) := by decide +kernel
theorem dL_acts_477 : decode cL_acts 477 = .ok (.ishr, 1) := by decide +kernel
theorem dL_acts_478 : decode cL_acts 478 = .ok (.sipush 201, 3) := by decide +kernel
theorem dL_acts_481 : decode cL_acts 481 = .ok (.invokestatic 88, 3) := by decide +kernel
theorem dL_acts_484 : decode cL_acts 484 = .ok (.iastore, 1) := by decide +kernel
theorem dL_acts_485 : decode cL_acts 485 = .ok (.aload_n 0, 1) := by decide +kernel
theorem dL_acts_486 : decode cL_acts 486 = .ok (.iload 15, 2) := by decide +kernel
theorem dL_acts_488 : decode cL_acts 488 = .ok (.aload 6, 2) := by decide +kernel
theorem dL_acts_490 : decode cL_acts 490 = .ok (.iload 15, 2) := by decide +kernel
theorem dL_acts_492 : decode cL_acts 492 = .ok (.iaload, 1) := by decide +kernel
theorem dL_acts_493 : decode cL_acts 493 = .ok (.invokevirtual 130, 3) := by decide +kernel
theorem dL_acts_496 : decode cL_acts 496 = .ok (.iload 16, 2) := by decide +kernel
theorem dL_acts_498 : decode cL_acts 498 = .ok (.if_icmp .ne 7, 3) := by decide +kernel
theorem dL_acts_501 : decode cL_acts 501 = .ok (.iconst 1, 1) := by decide +kernel
theorem dL_acts_502 : decode cL_acts 502 = .ok (.goto 4, 3) := by decide +kernel
theorem dL_acts_505 : decode cL_acts 505 = .ok (.iconst 0, 1) := by decide +kernel
theorem dL_acts_506 : decode cL_acts 506 = .ok (.ireturn, 1) := by decide +kernel
theorem dL_acts_507 : decode cL_acts 507 = .ok (.aload 7, 2) := by decide +kernel
theorem dL_acts_509 : decode cL_acts 509 = .ok (.bipush 7, 2) := by decide +kernel
theorem dL_acts_511 : decode cL_acts 511 = .ok (.iload 11, 2) := by decide +kernel
theorem dL_acts_513 : decode cL_acts 513 = .ok (.imul, 1) := by decide +kernel
theorem dL_acts_514 : decode cL_acts 514 = .ok (.iaload, 1) := by decide +kernel
theorem dL_acts_515 : decode cL_acts 515 = .ok (.ifCond .ne 20, 3) := by decide +kernel
theorem dL_acts_518 : decode cL_acts 518 = .ok (.aload_n 0, 1) := by decide +kernel
theorem dL_acts_519 : decode cL_acts 519 = .ok (.iload 11, 2) := by decide +kernel
theorem dL_acts_521 : decode cL_acts 521 = .ok (.iconst 4, 1) := by decide +kernel
theorem dL_acts_522 : decode cL_acts 522 = .ok (.invokevirtual 70, 3) := by decide +kernel
theorem dL_acts_525 : decode cL_acts 525 = .ok (.iconst (-1), 1) := by decide +kernel
theorem dL_acts_526 : decode cL_acts 526 = .ok (.if_icmp .ne 7, 3) := by decide +kernel
theorem dL_acts_529 : decode cL_acts 529 = .ok (.iconst 1, 1) := by decide +kernel
theorem dL_acts_530 : decode cL_acts 530 = .ok (.goto 4, 3) := by decide +kernel
theorem dL_acts_533 : decode cL_acts 533 = .ok (.iconst 0, 1) := by decide +kernel
theorem dL_acts_534 : decode cL_acts 534 = .ok (.ireturn, 1) := by decide +kernel
theorem dL_acts_535 : decode cL_acts 535 = .ok (.aload 7, 2) := by decide +kernel
theorem dL_acts_537 : decode cL_acts 537 = .ok (.bipush 7, 2) := by decide +kernel
theorem dL_acts_539 : decode cL_acts 539 = .ok (.iload 11, 2) := by decide +kernel
theorem dL_acts_541 : decode cL_acts 541 = .ok (.imul, 1) := by decide +kernel
theorem dL_acts_542 : decode cL_acts 542 = .ok (.aload 7, 2) := by decide +kernel
theorem dL_acts_544 : decode cL_acts 544 = .ok (.bipush 7, 2) := by decide +kernel
theorem dL_acts_546 : decode cL_acts 546 = .ok (.iload 11, 2) := by decide +kernel
theorem dL_acts_548 : decode cL_acts 548 = .ok (.imul, 1) := by decide +kernel
theorem dL_acts_549 : decode cL_acts 549 = .ok (.iaload, 1) := by decide +kernel
theorem dL_acts_550 : decode cL_acts 550 = .ok (.iadd, 1) := by decide +kernel
theorem dL_acts_551 : decode cL_acts 551 = .ok (.iaload, 1) := by decide +kernel
theorem dL_acts_552 : decode cL_acts 552 = .ok (.istore 17, 2) := by decide +kernel
theorem dL_acts_554 : decode cL_acts 554 = .ok (.aload_n 3, 1) := by decide +kernel
theorem dL_acts_555 : decode cL_acts 555 = .ok (.aload 4, 2) := by decide +kernel
theorem dL_acts_557 : decode cL_acts 557 = .ok (.aload 6, 2) := by decide +kernel
theorem dL_acts_559 : decode cL_acts 559 = .ok (.aload 7, 2) := by decide +kernel
theorem dL_acts_561 : decode cL_acts 561 = .ok (.iload 11, 2) := by decide +kernel
theorem dL_acts_563 : decode cL_acts 563 = .ok (.invokestatic 27, 3) := by decide +kernel
theorem dL_acts_566 : decode cL_acts 566 = .ok (.aload 7, 2) := by decide +kernel
theorem dL_acts_568 : decode cL_acts 568 = .ok (.bipush 7, 2) := by decide +kernel
theorem dL_acts_570 : decode cL_acts 570 = .ok (.iload 11, 2) := by decide +kernel
theorem dL_acts_572 : decode cL_acts 572 = .ok (.imul, 1) := by decide +kernel
theorem dL_acts_573 : decode cL_acts 573 = .ok (.dup2, 1) := by decide +kernel
theorem dL_acts_574 : decode cL_acts 574 = .ok (.iaload, 1) := by decide +kernel
theorem dL_acts_575 : decode cL_acts 575 = .ok (.iconst 1, 1) := by decide +kernel
theorem dL_acts_576 : decode cL_acts 576 = .ok (.isub, 1) := by decide +kernel
theorem dL_acts_577 : decode cL_acts 577 = .ok (.iastore, 1) := by decide +kernel
theorem dL_acts_578 : decode cL_acts 578 = .ok (.aload 6, 2) := by decide +kernel
theorem dL_acts_580 : decode cL_acts 580 = .ok (.bipush 6, 2) := by decide +kernel
theorem dL_acts_582 : decode cL_acts 582 = .ok (.dup2, 1) := by decide +kernel
theorem dL_acts_583 : decode cL_acts 583 = .ok (.iaload, 1) := by decide +kernel
theorem dL_acts_584 : decode cL_acts 584 = .ok (.iconst 1, 1) := by decide +kernel
theorem dL_acts_585 : decode cL_acts 585 = .ok (.iadd, 1) := by decide +kernel
theorem dL_acts_586 : decode cL_acts 586 = .ok (.iastore, 1) := by decide +kernel
theorem dL_acts_587 : decode cL_acts 587 = .ok (.aload_n 0, 1) := by decide +kernel
theorem dL_acts_588 : decode cL_acts 588 = .ok (.iload 11, 2) := by decide +kernel
theorem dL_acts_590 : decode cL_acts 590 = .ok (.invokevirtual 133, 3) := by decide +kernel
theorem dL_acts_593 : decode cL_acts 593 = .ok (.iload 17, 2) := by decide +kernel
theorem dL_acts_595 : decode cL_acts 595 = .ok (.if_icmp .ne 7, 3) := by decide +kernel
theorem dL_acts_598 : decode cL_acts 598 = .ok (.iconst 1, 1) := by decide +kernel
theorem dL_acts_599 : decode cL_acts 599 = .ok (.goto 4, 3) := by decide +kernel
theorem dL_acts_602 : decode cL_acts 602 = .ok (.iconst 0, 1) := by decide +kernel
theorem dL_acts_603 : decode cL_acts 603 = .ok (.ireturn, 1) := by decide +kernel
theorem dL_acts_604 : decode cL_acts 604 = .ok (.aload 6, 2) := by decide +kernel
theorem dL_acts_606 : decode cL_acts 606 = .ok (.bipush 8, 2) := by decide +kernel
theorem dL_acts_608 : decode cL_acts 608 = .ok (.iaload, 1) := by decide +kernel
theorem dL_acts_609 : decode cL_acts 609 = .ok (.ifCond .ne 9, 3) := by decide +kernel
theorem dL_acts_612 : decode cL_acts 612 = .ok (.sipush 700, 3) := by decide +kernel
theorem dL_acts_615 : decode cL_acts 615 = .ok (.goto 23, 3) := by decide +kernel
theorem dL_acts_618 : decode cL_acts 618 = .ok (.aload_n 1, 1) := by decide +kernel
theorem dL_acts_619 : decode cL_acts 619 = .ok (.iload 10, 2) := by decide +kernel
theorem dL_acts_621 : decode cL_acts 621 = .ok (.iaload, 1) := by decide +kernel
theorem dL_acts_622 : decode cL_acts 622 = .ok (.aload_n 1, 1) := by decide +kernel
theorem dL_acts_623 : decode cL_acts 623 = .ok (.iload 9, 2) := by decide +kernel
theorem dL_acts_625 : decode cL_acts 625 = .ok (.bipush 7, 2) := by decide +kernel
theorem dL_acts_627 : decode cL_acts 627 = .ok (.ishr, 1) := by decide +kernel
theorem dL_acts_628 : decode cL_acts 628 = .ok (.aload 6, 2) := by decide +kernel
theorem dL_acts_630 : decode cL_acts 630 = .ok (.bipush 8, 2) := by decide +kernel
theorem dL_acts_632 : decode cL_acts 632 = .ok (.iaload, 1) := by decide +kernel
theorem dL_acts_633 : decode cL_acts 633 = .ok (.invokestatic 88, 3) := by decide +kernel
theorem dL_acts_636 : decode cL_acts 636 = .ok (.iaload, 1) := by decide +kernel
theorem dL_acts_637 : decode cL_acts 637 = .ok (.iadd, 1) := by decide +kernel
theorem dL_acts_638 : decode cL_acts 638 = .ok (.istore 18, 2) := by decide +kernel
theorem dL_acts_640 : decode cL_acts 640 = .ok (.aload_n 0, 1) := by decide +kernel
theorem dL_acts_641 : decode cL_acts 641 = .ok (.aload_n 1, 1) := by decide +kernel
theorem dL_acts_642 : decode cL_acts 642 = .ok (.aload_n 2, 1) := by decide +kernel
theorem dL_acts_643 : decode cL_acts 643 = .ok (.aload_n 3, 1) := by decide +kernel
theorem dL_acts_644 : decode cL_acts 644 = .ok (.aload 4, 2) := by decide +kernel
theorem dL_acts_646 : decode cL_acts 646 = .ok (.aload 5, 2) := by decide +kernel
theorem dL_acts_648 : decode cL_acts 648 = .ok (.aload 6, 2) := by decide +kernel
theorem dL_acts_650 : decode cL_acts 650 = .ok (.aload 7, 2) := by decide +kernel
theorem dL_acts_652 : decode cL_acts 652 = .ok (.iload 11, 2) := by decide +kernel
theorem dL_acts_654 : decode cL_acts 654 = .ok (.iload 18, 2) := by decide +kernel
theorem dL_acts_656 : decode cL_acts 656 = .ok (.invokestatic 136, 3) := by decide +kernel
theorem dL_acts_659 : decode cL_acts 659 = .ok (.ireturn, 1) := by decide +kernel
theorem dL_acts_660 : decode cL_acts 660 = .ok (.iload 10, 2) := by decide +kernel
theorem dL_acts_662 : decode cL_acts 662 = .ok (.iconst (-1), 1) := by decide +kernel
theorem dL_acts_663 : decode cL_acts 663 = .ok (.if_icmp .eq 57, 3) := by decide +kernel
theorem dL_acts_666 : decode cL_acts 666 = .ok (.aload_n 0, 1) := by decide +kernel
theorem dL_acts_667 : decode cL_acts 667 = .ok (.iload 11, 2) := by decide +kernel
theorem dL_acts_669 : decode cL_acts 669 = .ok (.iload 10, 2) := by decide +kernel
theorem dL_acts_671 : decode cL_acts 671 = .ok (.invokevirtual 140, 3) := by decide +kernel
theorem dL_acts_674 : decode cL_acts 674 = .ok (.aload_n 2, 1) := by decide +kernel
theorem dL_acts_675 : decode cL_acts 675 = .ok (.aload_n 3, 1) := by decide +kernel
theorem dL_acts_676 : decode cL_acts 676 = .ok (.aload 4, 2) := by decide +kernel
theorem dL_acts_678 : decode cL_acts 678 = .ok (.aload 6, 2) := by decide +kernel
theorem dL_acts_680 : decode cL_acts 680 = .ok (.aload 7, 2) := by decide +kernel
theorem dL_acts_682 : decode cL_acts 682 = .ok (.iload 11, 2) := by decide +kernel
theorem dL_acts_684 : decode cL_acts 684 = .ok (.iload 10, 2) := by decide +kernel
theorem dL_acts_686 : decode cL_acts 686 = .ok (.invokestatic 23, 3) := by decide +kernel
theorem dL_acts_689 : decode cL_acts 689 = .ok (.if_icmp .ne 35, 3) := by decide +kernel
theorem dL_acts_692 : decode cL_acts 692 = .ok (.aload_n 0, 1) := by decide +kernel
theorem dL_acts_693 : decode cL_acts 693 = .ok (.iload 11, 2) := by decide +kernel
theorem dL_acts_695 : decode cL_acts 695 = .ok (.iload 10, 2) := by decide +kernel
theorem dL_acts_697 : decode cL_acts 697 = .ok (.invokevirtual 143, 3) := by decide +kernel
theorem dL_acts_700 : decode cL_acts 700 = .ok (.aload_n 2, 1) := by decide +kernel
theorem dL_acts_701 : decode cL_acts 701 = .ok (.aload_n 3, 1) := by decide +kernel
theorem dL_acts_702 : decode cL_acts 702 = .ok (.aload 4, 2) := by decide +kernel
theorem dL_acts_704 : decode cL_acts 704 = .ok (.aload 5, 2) := by decide +kernel
theorem dL_acts_706 : decode cL_acts 706 = .ok (.aload 6, 2) := by decide +kernel
theorem dL_acts_708 : decode cL_acts 708 = .ok (.aload 7, 2) := by decide +kernel
theorem dL_acts_710 : decode cL_acts 710 = .ok (.iload 11, 2) := by decide +kernel
theorem dL_acts_712 : decode cL_acts 712 = .ok (.iload 10, 2) := by decide +kernel
theorem dL_acts_714 : decode cL_acts 714 = .ok (.invokestatic 106, 3) := by decide +kernel
theorem dL_acts_717 : decode cL_acts 717 = .ok (.if_icmp .ne 7, 3) := by decide +kernel
theorem dL_acts_720 : decode cL_acts 720 = .ok (.iconst 1, 1) := by decide +kernel
theorem dL_acts_721 : decode cL_acts 721 = .ok (.goto 4, 3) := by decide +kernel
theorem dL_acts_724 : decode cL_acts 724 = .ok (.iconst 0, 1) := by decide +kernel
theorem dL_acts_725 : decode cL_acts 725 = .ok (.ireturn, 1) := by decide +kernel
theorem dL_law_0 : decode cL_law 0 = .ok (.new 38, 3) := by decide +kernel
theorem dL_law_3 : decode cL_law 3 = .ok (.dup, 1) := by decide +kernel
theorem dL_law_4 : decode cL_law 4 = .ok (.invokespecial 146, 3) := by decide +kernel
theorem dL_law_7 : decode cL_law 7 = .ok (.astore_n 1, 1) := by decide +kernel
theorem dL_law_8 : decode cL_law 8 = .ok (.bipush 10, 2) := by decide +kernel
theorem dL_law_10 : decode cL_law 10 = .ok (.newarray .int, 2) := by decide +kernel
theorem dL_law_12 : decode cL_law 12 = .ok (.astore_n 2, 1) := by decide +kernel
theorem dL_law_13 : decode cL_law 13 = .ok (.bipush 10, 2) := by decide +kernel
theorem dL_law_15 : decode cL_law 15 = .ok (.newarray .int, 2) := by decide +kernel
theorem dL_law_17 : decode cL_law 17 = .ok (.astore_n 3, 1) := by decide +kernel
theorem dL_law_18 : decode cL_law 18 = .ok (.bipush 10, 2) := by decide +kernel
theorem dL_law_20 : decode cL_law 20 = .ok (.newarray .int, 2) := by decide +kernel
theorem dL_law_22 : decode cL_law 22 = .ok (.astore 4, 2) := by decide +kernel
theorem dL_law_24 : decode cL_law 24 = .ok (.bipush 10, 2) := by decide +kernel
theorem dL_law_26 : decode cL_law 26 = .ok (.newarray .int, 2) := by decide +kernel
theorem dL_law_28 : decode cL_law 28 = .ok (.astore 5, 2) := by decide +kernel
theorem dL_law_30 : decode cL_law 30 = .ok (.bipush 10, 2) := by decide +kernel
theorem dL_law_32 : decode cL_law 32 = .ok (.newarray .int, 2) := by decide +kernel
theorem dL_law_34 : decode cL_law 34 = .ok (.astore 6, 2) := by decide +kernel
theorem dL_law_36 : decode cL_law 36 = .ok (.bipush 9, 2) := by decide +kernel
theorem dL_law_38 : decode cL_law 38 = .ok (.newarray .int, 2) := by decide +kernel
theorem dL_law_40 : decode cL_law 40 = .ok (.astore 7, 2) := by decide +kernel
theorem dL_law_42 : decode cL_law 42 = .ok (.bipush 21, 2) := by decide +kernel
theorem dL_law_44 : decode cL_law 44 = .ok (.newarray .int, 2) := by decide +kernel
theorem dL_law_46 : decode cL_law 46 = .ok (.astore 8, 2) := by decide +kernel
theorem dL_law_48 : decode cL_law 48 = .ok (.aload 7, 2) := by decide +kernel
theorem dL_law_50 : decode cL_law 50 = .ok (.iconst 0, 1) := by decide +kernel
theorem dL_law_51 : decode cL_law 51 = .ok (.bipush 10, 2) := by decide +kernel
theorem dL_law_53 : decode cL_law 53 = .ok (.iastore, 1) := by decide +kernel
theorem dL_law_54 : decode cL_law 54 = .ok (.aload 7, 2) := by decide +kernel
theorem dL_law_56 : decode cL_law 56 = .ok (.iconst 1, 1) := by decide +kernel
theorem dL_law_57 : decode cL_law 57 = .ok (.sipush 300, 3) := by decide +kernel
theorem dL_law_60 : decode cL_law 60 = .ok (.iastore, 1) := by decide +kernel
theorem dL_law_61 : decode cL_law 61 = .ok (.aload 7, 2) := by decide +kernel
theorem dL_law_63 : decode cL_law 63 = .ok (.iconst 2, 1) := by decide +kernel
theorem dL_law_64 : decode cL_law 64 = .ok (.iconst 3, 1) := by decide +kernel
theorem dL_law_65 : decode cL_law 65 = .ok (.iastore, 1) := by decide +kernel
theorem dL_law_66 : decode cL_law 66 = .ok (.aload 7, 2) := by decide +kernel
theorem dL_law_68 : decode cL_law 68 = .ok (.iconst 3, 1) := by decide +kernel
theorem dL_law_69 : decode cL_law 69 = .ok (.bipush 40, 2) := by decide +kernel
theorem dL_law_71 : decode cL_law 71 = .ok (.iastore, 1) := by decide +kernel
theorem dL_law_72 : decode cL_law 72 = .ok (.aload_n 1, 1) := by decide +kernel
theorem dL_law_73 : decode cL_law 73 = .ok (.aload_n 2, 1) := by decide +kernel
theorem dL_law_74 : decode cL_law 74 = .ok (.aload_n 3, 1) := by decide +kernel
theorem dL_law_75 : decode cL_law 75 = .ok (.aload 4, 2) := by decide +kernel
theorem dL_law_77 : decode cL_law 77 = .ok (.aload 5, 2) := by decide +kernel
theorem dL_law_79 : decode cL_law 79 = .ok (.aload 6, 2) := by decide +kernel
theorem dL_law_81 : decode cL_law 81 = .ok (.aload 7, 2) := by decide +kernel
theorem dL_law_83 : decode cL_law 83 = .ok (.aload 8, 2) := by decide +kernel
theorem dL_law_85 : decode cL_law 85 = .ok (.invokestatic 147, 3) := by decide +kernel
theorem dL_law_88 : decode cL_law 88 = .ok (.ifCond .eq 25, 3) := by decide +kernel
theorem dL_law_91 : decode cL_law 91 = .ok (.aload_n 1, 1) := by decide +kernel
theorem dL_law_92 : decode cL_law 92 = .ok (.aload_n 2, 1) := by decide +kernel
theorem dL_law_93 : decode cL_law 93 = .ok (.aload_n 3, 1) := by decide +kernel
theorem dL_law_94 : decode cL_law 94 = .ok (.aload 4, 2) := by decide +kernel
theorem dL_law_96 : decode cL_law 96 = .ok (.aload 5, 2) := by decide +kernel
theorem dL_law_98 : decode cL_law 98 = .ok (.aload 7, 2) := by decide +kernel
theorem dL_law_100 : decode cL_law 100 = .ok (.aload 8, 2) := by decide +kernel
theorem dL_law_102 : decode cL_law 102 = .ok (.iconst 5, 1) := by decide +kernel
theorem dL_law_103 : decode cL_law 103 = .ok (.invokestatic 151, 3) := by decide +kernel
theorem dL_law_106 : decode cL_law 106 = .ok (.ifCond .eq 7, 3) := by decide +kernel
theorem dL_law_109 : decode cL_law 109 = .ok (.iconst 1, 1) := by decide +kernel
theorem dL_law_110 : decode cL_law 110 = .ok (.goto 4, 3) := by decide +kernel
theorem dL_law_113 : decode cL_law 113 = .ok (.iconst 0, 1) := by decide +kernel
theorem dL_law_114 : decode cL_law 114 = .ok (.istore 9, 2) := by decide +kernel
theorem dL_law_116 : decode cL_law 116 = .ok (.iconst 0, 1) := by decide +kernel
theorem dL_law_117 : decode cL_law 117 = .ok (.istore 10, 2) := by decide +kernel
theorem dL_law_119 : decode cL_law 119 = .ok (.iload 10, 2) := by decide +kernel
theorem dL_law_121 : decode cL_law 121 = .ok (.bipush 38, 2) := by decide +kernel
theorem dL_law_123 : decode cL_law 123 = .ok (.if_icmp .ge 318, 3) := by decide +kernel
theorem dL_law_126 : decode cL_law 126 = .ok (.iload 9, 2) := by decide +kernel
theorem dL_law_128 : decode cL_law 128 = .ok (.ifCond .eq 313, 3) := by decide +kernel
theorem dL_law_131 : decode cL_law 131 = .ok (.aload_n 0, 1) := by decide +kernel
theorem dL_law_132 : decode cL_law 132 = .ok (.iload 10, 2) := by decide +kernel
theorem dL_law_134 : decode cL_law 134 = .ok (.invokestatic 154, 3) := by decide +kernel
theorem dL_law_137 : decode cL_law 137 = .ok (.istore 11, 2) := by decide +kernel
theorem dL_law_139 : decode cL_law 139 = .ok (.aload_n 1, 1) := by decide +kernel
theorem dL_law_140 : decode cL_law 140 = .ok (.aload_n 2, 1) := by decide +kernel
theorem dL_law_141 : decode cL_law 141 = .ok (.aload_n 3, 1) := by decide +kernel
theorem dL_law_142 : decode cL_law 142 = .ok (.aload 4, 2) := by decide +kernel
theorem dL_law_144 : decode cL_law 144 = .ok (.aload 5, 2) := by decide +kernel
theorem dL_law_146 : decode cL_law 146 = .ok (.aload 6, 2) := by decide +kernel
theorem dL_law_148 : decode cL_law 148 = .ok (.aload 7, 2) := by decide +kernel
theorem dL_law_150 : decode cL_law 150 = .ok (.aload 8, 2) := by decide +kernel
theorem dL_law_152 : decode cL_law 152 = .ok (.iload 10, 2) := by decide +kernel
theorem dL_law_154 : decode cL_law 154 = .ok (.bipush 7, 2) := by decide +kernel
theorem dL_law_156 : decode cL_law 156 = .ok (.if_icmp .ge 7, 3) := by decide +kernel
theorem dL_law_159 : decode cL_law 159 = .ok (.iconst 0, 1) := by decide +kernel
theorem dL_law_160 : decode cL_law 160 = .ok (.goto 13, 3) := by decide +kernel
theorem dL_law_163 : decode cL_law 163 = .ok (.iload 11, 2) := by decide +kernel
theorem dL_law_165 : decode cL_law 165 = .ok (.bipush 18, 2) := by decide +kernel
theorem dL_law_167 : decode cL_law 167 = .ok (.ishr, 1) := by decide +kernel
theorem dL_law_168 : decode cL_law 168 = .ok (.bipush 15, 2) := by decide +kernel
theorem dL_law_170 : decode cL_law 170 = .ok (.invokestatic 88, 3) := by decide +kernel
theorem dL_law_173 : decode cL_law 173 = .ok (.iload 11, 2) := by decide +kernel
theorem dL_law_175 : decode cL_law 175 = .ok (.invokestatic 157, 3) := by decide +kernel
theorem dL_law_178 : decode cL_law 178 = .ok (.ifCond .eq 78, 3) := by decide +kernel
theorem dL_law_181 : decode cL_law 181 = .ok (.aload_n 1, 1) := by decide +kernel
theorem dL_law_182 : decode cL_law 182 = .ok (.aload_n 2, 1) := by decide +kernel
theorem dL_law_183 : decode cL_law 183 = .ok (.aload_n 3, 1) := by decide +kernel
theorem dL_law_184 : decode cL_law 184 = .ok (.aload 4, 2) := by decide +kernel
theorem dL_law_186 : decode cL_law 186 = .ok (.aload 5, 2) := by decide +kernel
theorem dL_law_188 : decode cL_law 188 = .ok (.aload 6, 2) := by decide +kernel
theorem dL_law_190 : decode cL_law 190 = .ok (.aload 7, 2) := by decide +kernel
theorem dL_law_192 : decode cL_law 192 = .ok (.aload 8, 2) := by decide +kernel
theorem dL_law_194 : decode cL_law 194 = .ok (.invokestatic 147, 3) := by decide +kernel
theorem dL_law_197 : decode cL_law 197 = .ok (.ifCond .eq 59, 3) := by decide +kernel
theorem dL_law_200 : decode cL_law 200 = .ok (.aload_n 1, 1) := by decide +kernel
theorem dL_law_201 : decode cL_law 201 = .ok (.aload_n 2, 1) := by decide +kernel
theorem dL_law_202 : decode cL_law 202 = .ok (.aload_n 3, 1) := by decide +kernel
theorem dL_law_203 : decode cL_law 203 = .ok (.aload 4, 2) := by decide +kernel
theorem dL_law_205 : decode cL_law 205 = .ok (.aload 5, 2) := by decide +kernel
theorem dL_law_207 : decode cL_law 207 = .ok (.aload 7, 2) := by decide +kernel
theorem dL_law_209 : decode cL_law 209 = .ok (.aload 8, 2) := by decide +kernel
theorem dL_law_211 : decode cL_law 211 = .ok (.iload 11, 2) := by decide +kernel
theorem dL_law_213 : decode cL_law 213 = .ok (.iconst 4, 1) := by decide +kernel
theorem dL_law_214 : decode cL_law 214 = .ok (.ishr, 1) := by decide +kernel
theorem dL_law_215 : decode cL_law 215 = .ok (.bipush 40, 2) := by decide +kernel
theorem dL_law_217 : decode cL_law 217 = .ok (.invokestatic 88, 3) := by decide +kernel
theorem dL_law_220 : decode cL_law 220 = .ok (.invokestatic 151, 3) := by decide +kernel
theorem dL_law_223 : decode cL_law 223 = .ok (.ifCond .eq 33, 3) := by decide +kernel
theorem dL_law_226 : decode cL_law 226 = .ok (.aload_n 1, 1) := by decide +kernel
theorem dL_law_227 : decode cL_law 227 = .ok (.aload_n 2, 1) := by decide +kernel
theorem dL_law_228 : decode cL_law 228 = .ok (.aload_n 3, 1) := by decide +kernel
theorem dL_law_229 : decode cL_law 229 = .ok (.aload 4, 2) := by decide +kernel
theorem dL_law_231 : decode cL_law 231 = .ok (.aload 5, 2) := by decide +kernel
theorem dL_law_233 : decode cL_law 233 = .ok (.aload 7, 2) := by decide +kernel
theorem dL_law_235 : decode cL_law 235 = .ok (.aload 8, 2) := by decide +kernel
theorem dL_law_237 : decode cL_law 237 = .ok (.iload 11, 2) := by decide +kernel
theorem dL_law_239 : decode cL_law 239 = .ok (.bipush 6, 2) := by decide +kernel
theorem dL_law_241 : decode cL_law 241 = .ok (.ishr, 1) := by decide +kernel
theorem dL_law_242 : decode cL_law 242 = .ok (.iconst 3, 1) := by decide +kernel
theorem dL_law_243 : decode cL_law 243 = .ok (.invokestatic 88, 3) := by decide +kernel
theorem dL_law_246 : decode cL_law 246 = .ok (.invokestatic 160, 3) := by decide +kernel
theorem dL_law_249 : decode cL_law 249 = .ok (.ifCond .eq 7, 3) := by decide +kernel
theorem dL_law_252 : decode cL_law 252 = .ok (.iconst 1, 1) := by decide +kernel
theorem dL_law_253 : decode cL_law 253 = .ok (.goto 4, 3) := by decide +kernel
theorem dL_law_256 : decode cL_law 256 = .ok (.iconst 0, 1) := by decide +kernel
theorem dL_law_257 : decode cL_law 257 = .ok (.istore 9, 2) := by decide +kernel
theorem dL_law_259 : decode cL_law 259 = .ok (.aload 7, 2) := by decide +kernel
theorem dL_law_261 : decode cL_law 261 = .ok (.aload 8, 2) := by decide +kernel
theorem dL_law_263 : decode cL_law 263 = .ok (.invokestatic 59, 3) := by decide +kernel
theorem dL_law_266 : decode cL_law 266 = .ok (.istore 12, 2) := by decide +kernel
theorem dL_law_268 : decode cL_law 268 = .ok (.iload 11, 2) := by decide +kernel
theorem dL_law_270 : decode cL_law 270 = .ok (.bipush 8, 2) := by decide +kernel
theorem dL_law_272 : decode cL_law 272 = .ok (.ishr, 1) := by decide +kernel
theorem dL_law_273 : decode cL_law 273 = .ok (.iconst 3, 1) := by decide +kernel
theorem dL_law_274 : decode cL_law 274 = .ok (.invokestatic 88, 3) := by decide +kernel
theorem dL_law_277 : decode cL_law 277 = .ok (.ifCond .ne 19, 3) := by decide +kernel
theorem dL_law_280 : decode cL_law 280 = .ok (.sipush 500, 3) := by decide +kernel
theorem dL_law_283 : decode cL_law 283 = .ok (.iload 11, 2) := by decide +kernel
theorem dL_law_285 : decode cL_law 285 = .ok (.iconst 3, 1) := by decide +kernel
theorem dL_law_286 : decode cL_law 286 = .ok (.ishr, 1) := by decide +kernel
theorem dL_law_287 : decode cL_law 287 = .ok (.ldc 163, 2) := by decide +kernel
theorem dL_law_289 : decode cL_law 289 = .ok (.invokestatic 88, 3) := by decide +kernel
theorem dL_law_292 : decode cL_law 292 = .ok (.iadd, 1) := by decide +kernel
theorem dL_law_293 : decode cL_law 293 = .ok (.goto 37, 3) := by decide +kernel
theorem dL_law_296 : decode cL_law 296 = .ok (.aload_n 2, 1) := by decide +kernel
theorem dL_law_297 : decode cL_law 297 = .ok (.iload 12, 2) := by decide +kernel
theorem dL_law_299 : decode cL_law 299 = .ok (.iload 11, 2) := by decide +kernel
theorem dL_law_301 : decode cL_law 301 = .ok (.iconst 5, 1) := by decide +kernel
theorem dL_law_302 : decode cL_law 302 = .ok (.ishr, 1) := by decide +kernel
theorem dL_law_303 : decode cL_law 303 = .ok (.iand, 1) := by decide +kernel
theorem dL_law_304 : decode cL_law 304 = .ok (.invokestatic 34, 3) := by decide +kernel
theorem dL_law_307 : decode cL_law 307 = .ok (.sipush 500, 3) := by decide +kernel
theorem dL_law_310 : decode cL_law 310 = .ok (.if_icmp .ge 9, 3) := by decide +kernel
theorem dL_law_313 : decode cL_law 313 = .ok (.sipush 700, 3) := by decide +kernel
theorem dL_law_316 : decode cL_law 316 = .ok (.goto 14, 3) := by decide +kernel
theorem dL_law_319 : decode cL_law 319 = .ok (.aload_n 2, 1) := by decide +kernel
theorem dL_law_320 : decode cL_law 320 = .ok (.iload 12, 2) := by decide +kernel
theorem dL_law_322 : decode cL_law 322 = .ok (.iload 11, 2) := by decide +kernel
theorem dL_law_324 : decode cL_law 324 = .ok (.iconst 5, 1) := by decide +kernel
theorem dL_law_325 : decode cL_law 325 = .ok (.ishr, 1) := by decide +kernel
theorem dL_law_326 : decode cL_law 326 = .ok (.iand, 1) := by decide +kernel
theorem dL_law_327 : decode cL_law 327 = .ok (.invokestatic 34, 3) := by decide +kernel
theorem dL_law_330 : decode cL_law 330 = .ok (.istore 13, 2) := by decide +kernel
theorem dL_law_332 : decode cL_law 332 = .ok (.aload_n 2, 1) := by decide +kernel
theorem dL_law_333 : decode cL_law 333 = .ok (.iload 12, 2) := by decide +kernel
theorem dL_law_335 : decode cL_law 335 = .ok (.iload 13, 2) := by decide +kernel
theorem dL_law_337 : decode cL_law 337 = .ok (.invokestatic 102, 3) := by decide +kernel
theorem dL_law_340 : decode cL_law 340 = .ok (.istore 14, 2) := by decide +kernel
theorem dL_law_342 : decode cL_law 342 = .ok (.iload 9, 2) := by decide +kernel
theorem dL_law_344 : decode cL_law 344 = .ok (.ifCond .eq 88, 3) := by decide +kernel
theorem dL_law_347 : decode cL_law 347 = .ok (.iload 13, 2) := by decide +kernel
theorem dL_law_349 : decode cL_law 349 = .ok (.ldc 164, 2) := by decide +kernel
theorem dL_law_351 : decode cL_law 351 = .ok (.if_icmp .gt 77, 3) := by decide +kernel
theorem dL_law_354 : decode cL_law 354 = .ok (.aload_n 1, 1) := by decide +kernel
theorem dL_law_355 : decode cL_law 355 = .ok (.iload 13, 2) := by decide +kernel
theorem dL_law_357 : decode cL_law 357 = .ok (.iconst 0, 1) := by decide +kernel
theorem dL_law_358 : decode cL_law 358 = .ok (.invokevirtual 165, 3) := by decide +kernel
theorem dL_law_361 : decode cL_law 361 = .ok (.iload 14, 2) := by decide +kernel
theorem dL_law_363 : decode cL_law 363 = .ok (.ifCond .ne 7, 3) := by decide +kernel
theorem dL_law_366 : decode cL_law 366 = .ok (.iconst (-1), 1) := by decide +kernel
theorem dL_law_367 : decode cL_law 367 = .ok (.goto 8, 3) := by decide +kernel
theorem dL_law_370 : decode cL_law 370 = .ok (.iload 14, 2) := by decide +kernel
theorem dL_law_372 : decode cL_law 372 = .ok (.invokestatic 31, 3) := by decide +kernel
theorem dL_law_375 : decode cL_law 375 = .ok (.if_icmp .ne 57, 3) := by decide +kernel
theorem dL_law_378 : decode cL_law 378 = .ok (.aload_n 1, 1) := by decide +kernel
theorem dL_law_379 : decode cL_law 379 = .ok (.iload 13, 2) := by decide +kernel
theorem dL_law_381 : decode cL_law 381 = .ok (.iconst 1, 1) := by decide +kernel
theorem dL_law_382 : decode cL_law 382 = .ok (.invokevirtual 165, 3) := by decide +kernel
theorem dL_law_385 : decode cL_law 385 = .ok (.iload 14, 2) := by decide +kernel
theorem dL_law_387 : decode cL_law 387 = .ok (.ifCond .ne 7, 3) := by decide +kernel
theorem dL_law_390 : decode cL_law 390 = .ok (.iconst (-1), 1) := by decide +kernel
theorem dL_law_391 : decode cL_law 391 = .ok (.goto 5, 3) := by decide +kernel
theorem dL_law_394 : decode cL_law 394 = .ok (.iload 14, 2) := by decide +kernel
theorem dL_law_396 : decode cL_law 396 = .ok (.if_icmp .ne 36, 3) := by decide +kernel
theorem dL_law_399 : decode cL_law 399 = .ok (.aload_n 1, 1) := by decide +kernel
theorem dL_law_400 : decode cL_law 400 = .ok (.aload_n 2, 1) := by decide +kernel
theorem dL_law_401 : decode cL_law 401 = .ok (.iload 12, 2) := by decide +kernel
theorem dL_law_403 : decode cL_law 403 = .ok (.iload 13, 2) := by decide +kernel
theorem dL_law_405 : decode cL_law 405 = .ok (.invokestatic 167, 3) := by decide +kernel
theorem dL_law_408 : decode cL_law 408 = .ok (.ifCond .eq 24, 3) := by decide +kernel
theorem dL_law_411 : decode cL_law 411 = .ok (.aload_n 1, 1) := by decide +kernel
theorem dL_law_412 : decode cL_law 412 = .ok (.iload 13, 2) := by decide +kernel
theorem dL_law_414 : decode cL_law 414 = .ok (.invokevirtual 171, 3) := by decide +kernel
theorem dL_law_417 : decode cL_law 417 = .ok (.aload_n 2, 1) := by decide +kernel
theorem dL_law_418 : decode cL_law 418 = .ok (.iload 12, 2) := by decide +kernel
theorem dL_law_420 : decode cL_law 420 = .ok (.iload 13, 2) := by decide +kernel
theorem dL_law_422 : decode cL_law 422 = .ok (.invokestatic 174, 3) := by decide +kernel
theorem dL_law_425 : decode cL_law 425 = .ok (.if_icmp .ne 7, 3) := by decide +kernel
theorem dL_law_428 : decode cL_law 428 = .ok (.iconst 1, 1) := by decide +kernel
theorem dL_law_429 : decode cL_law 429 = .ok (.goto 4, 3) := by decide +kernel
theorem dL_law_432 : decode cL_law 432 = .ok (.iconst 0, 1) := by decide +kernel
theorem dL_law_433 : decode cL_law 433 = .ok (.istore 9, 2) := by decide +kernel
theorem dL_law_435 : decode cL_law 435 = .ok (.iinc 10 1, 3) := by decide +kernel
theorem dL_law_438 : decode cL_law 438 = .ok (.goto (-319), 3) := by decide +kernel
theorem dL_law_441 : decode cL_law 441 = .ok (.iload 9, 2) := by decide +kernel
theorem dL_law_443 : decode cL_law 443 = .ok (.ireturn, 1) := by decide +kernel
