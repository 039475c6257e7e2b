theorem i_M_sum_94 : decode m_M_sum.2.1 94 = .ok (.lreturn, 1) := by decide +kernel
theorem i_M_differs_0 : decode m_M_differs.2.1 0 = .ok (.aload_n 0, 1) := by decide +kernel
theorem i_M_differs_1 : decode m_M_differs.2.1 1 = .ok (.aload_n 0, 1) := by decide +kernel
theorem i_M_differs_2 : qGet m_M_differs 2 5 25 := ⟨116, _, by decide +kernel, rfl, by decide, rfl, Or.inl wd_806⟩
theorem i_M_differs_5 : decode m_M_differs.2.1 5 = .ok (.aload_n 0, 1) := by decide +kernel
theorem i_M_differs_6 : decode m_M_differs.2.1 6 = .ok (.iload_n 1, 1) := by decide +kernel
theorem i_M_differs_7 : qInv m_M_differs 7 m_M_isVersion 5 1 := ⟨198, _, by decide +kernel, rfl, rfl, wd_998, wd_1000, ws_36, by decide +kernel⟩
theorem i_M_differs_10 : decode m_M_differs.2.1 10 = .ok (.ifCond .eq 11, 3) := by decide +kernel
theorem i_M_differs_13 : decode m_M_differs.2.1 13 = .ok (.aload_n 0, 1) := by decide +kernel
theorem i_M_differs_14 : decode m_M_differs.2.1 14 = .ok (.iload_n 2, 1) := by decide +kernel
theorem i_M_differs_15 : qInv m_M_differs 15 m_M_isVersion 5 1 := ⟨198, _, by decide +kernel, rfl, rfl, wd_998, wd_1000, ws_36, by decide +kernel⟩
theorem i_M_differs_18 : decode m_M_differs.2.1 18 = .ok (.ifCond .ne 7, 3) := by decide +kernel
theorem i_M_differs_21 : decode m_M_differs.2.1 21 = .ok (.iconst 1, 1) := by decide +kernel
theorem i_M_differs_22 : decode m_M_differs.2.1 22 = .ok (.goto 4, 3) := by decide +kernel
theorem i_M_differs_25 : decode m_M_differs.2.1 25 = .ok (.iconst 0, 1) := by decide +kernel
theorem i_M_differs_26 : decode m_M_differs.2.1 26 = .ok (.iload_n 3, 1) := by decide +kernel
theorem i_M_differs_27 : decode m_M_differs.2.1 27 = .ok (.ifCond .ge 7, 3) := by decide +kernel
theorem i_M_differs_30 : decode m_M_differs.2.1 30 = .ok (.iconst 1, 1) := by decide +kernel
theorem i_M_differs_31 : decode m_M_differs.2.1 31 = .ok (.goto 4, 3) := by decide +kernel
theorem i_M_differs_34 : decode m_M_differs.2.1 34 = .ok (.iconst 0, 1) := by decide +kernel
theorem i_M_differs_35 : decode m_M_differs.2.1 35 = .ok (.iconst 0, 1) := by decide +kernel
theorem i_M_differs_36 : qInv m_M_differs 36 m_M_fails 5 4 := ⟨120, _, by decide +kernel, rfl, rfl, wd_926, wd_928, ws_21, by decide +kernel⟩
theorem i_M_differs_39 : decode m_M_differs.2.1 39 = .ok (.ifCond .eq 5, 3) := by decide +kernel
theorem i_M_differs_42 : decode m_M_differs.2.1 42 = .ok (.iconst 0, 1) := by decide +kernel
theorem i_M_differs_43 : decode m_M_differs.2.1 43 = .ok (.ireturn, 1) := by decide +kernel
theorem i_M_differs_44 : decode m_M_differs.2.1 44 = .ok (.aload_n 0, 1) := by decide +kernel
theorem i_M_differs_45 : decode m_M_differs.2.1 45 = .ok (.iload_n 1, 1) := by decide +kernel
theorem i_M_differs_46 : qInv m_M_differs 46 m_M_collect 5 1 := ⟨209, _, by decide +kernel, rfl, rfl, wd_1010, wd_1012, ws_37, by decide +kernel⟩
theorem i_M_differs_49 : decode m_M_differs.2.1 49 = .ok (.aload_n 0, 1) := by decide +kernel
theorem i_M_differs_50 : qGet m_M_differs 50 5 39 := ⟨206, _, by decide +kernel, rfl, by decide, rfl, Or.inl wd_820⟩
theorem i_M_differs_53 : decode m_M_differs.2.1 53 = .ok (.istore 4, 2) := by decide +kernel
theorem i_M_differs_55 : decode m_M_differs.2.1 55 = .ok (.iconst 0, 1) := by decide +kernel
theorem i_M_differs_56 : decode m_M_differs.2.1 56 = .ok (.istore 5, 2) := by decide +kernel
theorem i_M_differs_58 : decode m_M_differs.2.1 58 = .ok (.iload 5, 2) := by decide +kernel
theorem i_M_differs_60 : decode m_M_differs.2.1 60 = .ok (.aload_n 0, 1) := by decide +kernel
theorem i_M_differs_61 : qGet m_M_differs 61 5 39 := ⟨206, _, by decide +kernel, rfl, by decide, rfl, Or.inl wd_820⟩
theorem i_M_differs_64 : decode m_M_differs.2.1 64 = .ok (.if_icmp .ge 37, 3) := by decide +kernel
theorem i_M_differs_67 : decode m_M_differs.2.1 67 = .ok (.aload_n 0, 1) := by decide +kernel
theorem i_M_differs_68 : qGet m_M_differs 68 5 40 := ⟨97, _, by decide +kernel, rfl, by decide, rfl, Or.inl wd_821⟩
theorem i_M_differs_71 : decode m_M_differs.2.1 71 = .ok (.iload 5, 2) := by decide +kernel
theorem i_M_differs_73 : decode m_M_differs.2.1 73 = .ok (.aload_n 0, 1) := by decide +kernel
theorem i_M_differs_74 : qGet m_M_differs 74 5 37 := ⟨91, _, by decide +kernel, rfl, by decide, rfl, Or.inl wd_818⟩
theorem i_M_differs_77 : decode m_M_differs.2.1 77 = .ok (.iload 5, 2) := by decide +kernel
theorem i_M_differs_79 : decode m_M_differs.2.1 79 = .ok (.iaload, 1) := by decide +kernel
theorem i_M_differs_80 : decode m_M_differs.2.1 80 = .ok (.iastore, 1) := by decide +kernel
theorem i_M_differs_81 : decode m_M_differs.2.1 81 = .ok (.aload_n 0, 1) := by decide +kernel
theorem i_M_differs_82 : qGet m_M_differs 82 5 41 := ⟨100, _, by decide +kernel, rfl, by decide, rfl, Or.inl wd_822⟩
theorem i_M_differs_85 : decode m_M_differs.2.1 85 = .ok (.iload 5, 2) := by decide +kernel
theorem i_M_differs_87 : decode m_M_differs.2.1 87 = .ok (.aload_n 0, 1) := by decide +kernel
theorem i_M_differs_88 : qGet m_M_differs 88 5 38 := ⟨94, _, by decide +kernel, rfl, by decide, rfl, Or.inl wd_819⟩
theorem i_M_differs_91 : decode m_M_differs.2.1 91 = .ok (.iload 5, 2) := by decide +kernel
theorem i_M_differs_93 : decode m_M_differs.2.1 93 = .ok (.laload, 1) := by decide +kernel
theorem i_M_differs_94 : decode m_M_differs.2.1 94 = .ok (.lastore, 1) := by decide +kernel
theorem i_M_differs_95 : decode m_M_differs.2.1 95 = .ok (.iinc 5 1, 3) := by decide +kernel
theorem i_M_differs_98 : decode m_M_differs.2.1 98 = .ok (.goto (-40), 3) := by decide +kernel
theorem i_M_differs_101 : decode m_M_differs.2.1 101 = .ok (.aload_n 0, 1) := by decide +kernel
theorem i_M_differs_102 : decode m_M_differs.2.1 102 = .ok (.iload_n 2, 1) := by decide +kernel
theorem i_M_differs_103 : qInv m_M_differs 103 m_M_collect 5 1 := ⟨209, _, by decide +kernel, rfl, rfl, wd_1010, wd_1012, ws_37, by decide +kernel⟩
theorem i_M_differs_106 : decode m_M_differs.2.1 106 = .ok (.iconst 0, 1) := by decide +kernel
theorem i_M_differs_107 : decode m_M_differs.2.1 107 = .ok (.istore 5, 2) := by decide +kernel
theorem i_M_differs_109 : decode m_M_differs.2.1 109 = .ok (.iconst 0, 1) := by decide +kernel
theorem i_M_differs_110 : decode m_M_differs.2.1 110 = .ok (.istore 6, 2) := by decide +kernel
theorem i_M_differs_112 : decode m_M_differs.2.1 112 = .ok (.iconst 0, 1) := by decide +kernel
theorem i_M_differs_113 : decode m_M_differs.2.1 113 = .ok (.istore 7, 2) := by decide +kernel
theorem i_M_differs_115 : decode m_M_differs.2.1 115 = .ok (.iload 5, 2) := by decide +kernel
theorem i_M_differs_117 : decode m_M_differs.2.1 117 = .ok (.aload_n 0, 1) := by decide +kernel
theorem i_M_differs_118 : qGet m_M_differs 118 5 39 := ⟨206, _, by decide +kernel, rfl, by decide, rfl, Or.inl wd_820⟩
theorem i_M_differs_121 : decode m_M_differs.2.1 121 = .ok (.if_icmp .lt 10, 3) := by decide +kernel
theorem i_M_differs_124 : decode m_M_differs.2.1 124 = .ok (.iload 6, 2) := by decide +kernel
theorem i_M_differs_126 : decode m_M_differs.2.1 126 = .ok (.iload 4, 2) := by decide +kernel
theorem i_M_differs_128 : decode m_M_differs.2.1 128 = .ok (.if_icmp .ge 204, 3) := by decide +kernel
theorem i_M_differs_131 : decode m_M_differs.2.1 131 = .ok (.iload 6, 2) := by decide +kernel
theorem i_M_differs_133 : decode m_M_differs.2.1 133 = .ok (.iload 4, 2) := by decide +kernel
theorem i_M_differs_135 : decode m_M_differs.2.1 135 = .ok (.if_icmp .eq 29, 3) := by decide +kernel
theorem i_M_differs_138 : decode m_M_differs.2.1 138 = .ok (.iload 5, 2) := by decide +kernel
theorem i_M_differs_140 : decode m_M_differs.2.1 140 = .ok (.aload_n 0, 1) := by decide +kernel
theorem i_M_differs_141 : qGet m_M_differs 141 5 39 := ⟨206, _, by decide +kernel, rfl, by decide, rfl, Or.inl wd_820⟩
theorem i_M_differs_144 : decode m_M_differs.2.1 144 = .ok (.if_icmp .ge 24, 3) := by decide +kernel
theorem i_M_differs_147 : decode m_M_differs.2.1 147 = .ok (.aload_n 0, 1) := by decide +kernel
theorem i_M_differs_148 : qGet m_M_differs 148 5 37 := ⟨91, _, by decide +kernel, rfl, by decide, rfl, Or.inl wd_818⟩
theorem i_M_differs_151 : decode m_M_differs.2.1 151 = .ok (.iload 5, 2) := by decide +kernel
theorem i_M_differs_153 : decode m_M_differs.2.1 153 = .ok (.iaload, 1) := by decide +kernel
theorem i_M_differs_154 : decode m_M_differs.2.1 154 = .ok (.aload_n 0, 1) := by decide +kernel
theorem i_M_differs_155 : qGet m_M_differs 155 5 40 := ⟨97, _, by decide +kernel, rfl, by decide, rfl, Or.inl wd_821⟩
theorem i_M_differs_158 : decode m_M_differs.2.1 158 = .ok (.iload 6, 2) := by decide +kernel
theorem i_M_differs_160 : decode m_M_differs.2.1 160 = .ok (.iaload, 1) := by decide +kernel
theorem i_M_differs_161 : decode m_M_differs.2.1 161 = .ok (.if_icmp .ge 7, 3) := by decide +kernel
theorem i_M_differs_164 : decode m_M_differs.2.1 164 = .ok (.iconst 1, 1) := by decide +kernel
theorem i_M_differs_165 : decode m_M_differs.2.1 165 = .ok (.goto 4, 3) := by decide +kernel
theorem i_M_differs_168 : decode m_M_differs.2.1 168 = .ok (.iconst 0, 1) := by decide +kernel
theorem i_M_differs_169 : decode m_M_differs.2.1 169 = .ok (.istore 8, 2) := by decide +kernel
theorem i_M_differs_171 : decode m_M_differs.2.1 171 = .ok (.iload 5, 2) := by decide +kernel
theorem i_M_differs_173 : decode m_M_differs.2.1 173 = .ok (.aload_n 0, 1) := by decide +kernel
theorem i_M_differs_174 : qGet m_M_differs 174 5 39 := ⟨206, _, by decide +kernel, rfl, by decide, rfl, Or.inl wd_820⟩
theorem i_M_differs_177 : decode m_M_differs.2.1 177 = .ok (.if_icmp .eq 27, 3) := by decide +kernel
theorem i_M_differs_180 : decode m_M_differs.2.1 180 = .ok (.iload 6, 2) := by decide +kernel
theorem i_M_differs_182 : decode m_M_differs.2.1 182 = .ok (.iload 4, 2) := by decide +kernel
theorem i_M_differs_184 : decode m_M_differs.2.1 184 = .ok (.if_icmp .ge 24, 3) := by decide +kernel
theorem i_M_differs_187 : decode m_M_differs.2.1 187 = .ok (.aload_n 0, 1) := by decide +kernel
theorem i_M_differs_188 : qGet m_M_differs 188 5 40 := ⟨97, _, by decide +kernel, rfl, by decide, rfl, Or.inl wd_821⟩
theorem i_M_differs_191 : decode m_M_differs.2.1 191 = .ok (.iload 6, 2) := by decide +kernel
theorem i_M_differs_193 : decode m_M_differs.2.1 193 = .ok (.iaload, 1) := by decide +kernel
theorem i_M_differs_194 : decode m_M_differs.2.1 194 = .ok (.aload_n 0, 1) := by decide +kernel
theorem i_M_differs_195 : qGet m_M_differs 195 5 37 := ⟨91, _, by decide +kernel, rfl, by decide, rfl, Or.inl wd_818⟩
theorem i_M_differs_198 : decode m_M_differs.2.1 198 = .ok (.iload 5, 2) := by decide +kernel
theorem i_M_differs_200 : decode m_M_differs.2.1 200 = .ok (.iaload, 1) := by decide +kernel
theorem i_M_differs_201 : decode m_M_differs.2.1 201 = .ok (.if_icmp .ge 7, 3) := by decide +kernel
theorem i_M_differs_204 : decode m_M_differs.2.1 204 = .ok (.iconst 1, 1) := by decide +kernel
theorem i_M_differs_205 : decode m_M_differs.2.1 205 = .ok (.goto 4, 3) := by decide +kernel
theorem i_M_differs_208 : decode m_M_differs.2.1 208 = .ok (.iconst 0, 1) := by decide +kernel
theorem i_M_differs_209 : decode m_M_differs.2.1 209 = .ok (.istore 9, 2) := by decide +kernel
theorem i_M_differs_211 : decode m_M_differs.2.1 211 = .ok (.iload 8, 2) := by decide +kernel
theorem i_M_differs_213 : decode m_M_differs.2.1 213 = .ok (.ifCond .eq 13, 3) := by decide +kernel
theorem i_M_differs_216 : decode m_M_differs.2.1 216 = .ok (.aload_n 0, 1) := by decide +kernel
theorem i_M_differs_217 : qGet m_M_differs 217 5 37 := ⟨91, _, by decide +kernel, rfl, by decide, rfl, Or.inl wd_818⟩
theorem i_M_differs_220 : decode m_M_differs.2.1 220 = .ok (.iload 5, 2) := by decide +kernel
theorem i_M_differs_222 : decode m_M_differs.2.1 222 = .ok (.iaload, 1) := by decide +kernel
theorem i_M_differs_223 : decode m_M_differs.2.1 223 = .ok (.goto 10, 3) := by decide +kernel
theorem i_M_differs_226 : decode m_M_differs.2.1 226 = .ok (.aload_n 0, 1) := by decide +kernel
theorem i_M_differs_227 : qGet m_M_differs 227 5 40 := ⟨97, _, by decide +kernel, rfl, by decide, rfl, Or.inl wd_821⟩
theorem i_M_differs_230 : decode m_M_differs.2.1 230 = .ok (.iload 6, 2) := by decide +kernel
theorem i_M_differs_232 : decode m_M_differs.2.1 232 = .ok (.iaload, 1) := by decide +kernel
theorem i_M_differs_233 : decode m_M_differs.2.1 233 = .ok (.istore 10, 2) := by decide +kernel
theorem i_M_differs_235 : decode m_M_differs.2.1 235 = .ok (.iload 8, 2) := by decide +kernel
theorem i_M_differs_237 : decode m_M_differs.2.1 237 = .ok (.ifCond .ne 26, 3) := by decide +kernel
theorem i_M_differs_240 : decode m_M_differs.2.1 240 = .ok (.iload 9, 2) := by decide +kernel
theorem i_M_differs_242 : decode m_M_differs.2.1 242 = .ok (.ifCond .ne 21, 3) := by decide +kernel
theorem i_M_differs_245 : decode m_M_differs.2.1 245 = .ok (.aload_n 0, 1) := by decide +kernel
theorem i_M_differs_246 : qGet m_M_differs 246 5 38 := ⟨94, _, by decide +kernel, rfl, by decide, rfl, Or.inl wd_819⟩
theorem i_M_differs_249 : decode m_M_differs.2.1 249 = .ok (.iload 5, 2) := by decide +kernel
theorem i_M_differs_251 : decode m_M_differs.2.1 251 = .ok (.laload, 1) := by decide +kernel
theorem i_M_differs_252 : decode m_M_differs.2.1 252 = .ok (.aload_n 0, 1) := by decide +kernel
theorem i_M_differs_253 : qGet m_M_differs 253 5 41 := ⟨100, _, by decide +kernel, rfl, by decide, rfl, Or.inl wd_822⟩
theorem i_M_differs_256 : decode m_M_differs.2.1 256 = .ok (.iload 6, 2) := by decide +kernel
theorem i_M_differs_258 : decode m_M_differs.2.1 258 = .ok (.laload, 1) := by decide +kernel
theorem i_M_differs_259 : decode m_M_differs.2.1 259 = .ok (.lcmp, 1) := by decide +kernel
theorem i_M_differs_260 : decode m_M_differs.2.1 260 = .ok (.ifCond .eq 7, 3) := by decide +kernel
theorem i_M_differs_263 : decode m_M_differs.2.1 263 = .ok (.iconst 1, 1) := by decide +kernel
theorem i_M_differs_264 : decode m_M_differs.2.1 264 = .ok (.goto 4, 3) := by decide +kernel
theorem i_M_differs_267 : decode m_M_differs.2.1 267 = .ok (.iconst 0, 1) := by decide +kernel
theorem i_M_differs_268 : decode m_M_differs.2.1 268 = .ok (.istore 11, 2) := by decide +kernel
theorem i_M_differs_270 : decode m_M_differs.2.1 270 = .ok (.iload 11, 2) := by decide +kernel
theorem i_M_differs_272 : decode m_M_differs.2.1 272 = .ok (.ifCond .eq 12, 3) := by decide +kernel
theorem i_M_differs_275 : decode m_M_differs.2.1 275 = .ok (.iload 7, 2) := by decide +kernel
theorem i_M_differs_277 : decode m_M_differs.2.1 277 = .ok (.iload_n 3, 1) := by decide +kernel
theorem i_M_differs_278 : decode m_M_differs.2.1 278 = .ok (.if_icmp .ne 6, 3) := by decide +kernel
theorem i_M_differs_281 : decode m_M_differs.2.1 281 = .ok (.iload 10, 2) := by decide +kernel
theorem i_M_differs_283 : decode m_M_differs.2.1 283 = .ok (.ireturn, 1) := by decide +kernel
theorem i_M_differs_284 : decode m_M_differs.2.1 284 = .ok (.iload 7, 2) := by decide +kernel
theorem i_M_differs_286 : decode m_M_differs.2.1 286 = .ok (.iload 11, 2) := by decide +kernel
theorem i_M_differs_288 : decode m_M_differs.2.1 288 = .ok (.ifCond .eq 7, 3) := by decide +kernel
theorem i_M_differs_291 : decode m_M_differs.2.1 291 = .ok (.iconst 1, 1) := by decide +kernel
theorem i_M_differs_292 : decode m_M_differs.2.1 292 = .ok (.goto 4, 3) := by decide +kernel
theorem i_M_differs_295 : decode m_M_differs.2.1 295 = .ok (.iconst 0, 1) := by decide +kernel
theorem i_M_differs_296 : decode m_M_differs.2.1 296 = .ok (.iadd, 1) := by decide +kernel
theorem i_M_differs_297 : decode m_M_differs.2.1 297 = .ok (.istore 7, 2) := by decide +kernel
theorem i_M_differs_299 : decode m_M_differs.2.1 299 = .ok (.iload 5, 2) := by decide +kernel
theorem i_M_differs_301 : decode m_M_differs.2.1 301 = .ok (.iload 9, 2) := by decide +kernel
theorem i_M_differs_303 : decode m_M_differs.2.1 303 = .ok (.ifCond .eq 7, 3) := by decide +kernel
theorem i_M_differs_306 : decode m_M_differs.2.1 306 = .ok (.iconst 0, 1) := by decide +kernel
theorem i_M_differs_307 : decode m_M_differs.2.1 307 = .ok (.goto 4, 3) := by decide +kernel
theorem i_M_differs_310 : decode m_M_differs.2.1 310 = .ok (.iconst 1, 1) := by decide +kernel
theorem i_M_differs_311 : decode m_M_differs.2.1 311 = .ok (.iadd, 1) := by decide +kernel
theorem i_M_differs_312 : decode m_M_differs.2.1 312 = .ok (.istore 5, 2) := by decide +kernel
theorem i_M_differs_314 : decode m_M_differs.2.1 314 = .ok (.iload 6, 2) := by decide +kernel
theorem i_M_differs_316 : decode m_M_differs.2.1 316 = .ok (.iload 8, 2) := by decide +kernel
theorem i_M_differs_318 : decode m_M_differs.2.1 318 = .ok (.ifCond .eq 7, 3) := by decide +kernel
theorem i_M_differs_321 : decode m_M_differs.2.1 321 = .ok (.iconst 0, 1) := by decide +kernel
theorem i_M_differs_322 : decode m_M_differs.2.1 322 = .ok (.goto 4, 3) := by decide +kernel
theorem i_M_differs_325 : decode m_M_differs.2.1 325 = .ok (.iconst 1, 1) := by decide +kernel
theorem i_M_differs_326 : decode m_M_differs.2.1 326 = .ok (.iadd, 1) := by decide +kernel
theorem i_M_differs_327 : decode m_M_differs.2.1 327 = .ok (.istore 6, 2) := by decide +kernel
theorem i_M_differs_329 : decode m_M_differs.2.1 329 = .ok (.goto (-214), 3) := by decide +kernel
theorem i_M_differs_332 : decode m_M_differs.2.1 332 = .ok (.aload_n 0, 1) := by decide +kernel
theorem i_M_differs_333 : decode m_M_differs.2.1 333 = .ok (.iconst 4, 1) := by decide +kernel
theorem i_M_differs_334 : qPut m_M_differs 334 5 0 := ⟨113, _, by decide +kernel, rfl, by decide, rfl, Or.inl rfl, Or.inl wd_781⟩
theorem i_M_differs_337 : decode m_M_differs.2.1 337 = .ok (.iconst 0, 1) := by decide +kernel
theorem i_M_differs_338 : decode m_M_differs.2.1 338 = .ok (.ireturn, 1) := by decide +kernel
theorem i_M_pages_0 : decode m_M_pages.2.1 0 = .ok (.aload_n 0, 1) := by decide +kernel
theorem i_M_pages_1 : qInv m_M_pages 1 m_M_isDown 5 0 := ⟨195, _, by decide +kernel, rfl, rfl, wd_990, wd_992, ws_35, by decide +kernel⟩
theorem i_M_pages_4 : decode m_M_pages.2.1 4 = .ok (.ifCond .eq 7, 3) := by decide +kernel
theorem i_M_pages_7 : decode m_M_pages.2.1 7 = .ok (.iconst 0, 1) := by decide +kernel
theorem i_M_pages_8 : decode m_M_pages.2.1 8 = .ok (.goto 7, 3) := by decide +kernel
theorem i_M_pages_11 : decode m_M_pages.2.1 11 = .ok (.aload_n 0, 1) := by decide +kernel
theorem i_M_pages_12 : qGet m_M_pages 12 5 10 := ⟨39, _, by decide +kernel, rfl, by decide, rfl, Or.inl wd_791⟩
theorem i_M_pages_15 : decode m_M_pages.2.1 15 = .ok (.ireturn, 1) := by decide +kernel
theorem i_M_isPage_0 : decode m_M_isPage.2.1 0 = .ok (.iload_n 1, 1) := by decide +kernel
theorem i_M_isPage_1 : decode m_M_isPage.2.1 1 = .ok (.ifCond .lt 15, 3) := by decide +kernel
theorem i_M_isPage_4 : decode m_M_isPage.2.1 4 = .ok (.iload_n 1, 1) := by decide +kernel
theorem i_M_isPage_5 : decode m_M_isPage.2.1 5 = .ok (.aload_n 0, 1) := by decide +kernel
theorem i_M_isPage_6 : qGet m_M_isPage 6 5 10 := ⟨39, _, by decide +kernel, rfl, by decide, rfl, Or.inl wd_791⟩
theorem i_M_isPage_9 : decode m_M_isPage.2.1 9 = .ok (.if_icmp .ge 7, 3) := by decide +kernel
theorem i_M_isPage_12 : decode m_M_isPage.2.1 12 = .ok (.iconst 1, 1) := by decide +kernel
theorem i_M_isPage_13 : decode m_M_isPage.2.1 13 = .ok (.goto 4, 3) := by decide +kernel
theorem i_M_isPage_16 : decode m_M_isPage.2.1 16 = .ok (.iconst 0, 1) := by decide +kernel
theorem i_M_isPage_17 : decode m_M_isPage.2.1 17 = .ok (.ireturn, 1) := by decide +kernel
theorem i_M_page_0 : decode m_M_page.2.1 0 = .ok (.aload_n 0, 1) := by decide +kernel
theorem i_M_page_1 : decode m_M_page.2.1 1 = .ok (.aload_n 0, 1) := by decide +kernel
theorem i_M_page_2 : qGet m_M_page 2 5 25 := ⟨116, _, by decide +kernel, rfl, by decide, rfl, Or.inl wd_806⟩
theorem i_M_page_5 : decode m_M_page.2.1 5 = .ok (.aload_n 0, 1) := by decide +kernel
theorem i_M_page_6 : decode m_M_page.2.1 6 = .ok (.iload_n 1, 1) := by decide +kernel
theorem i_M_page_7 : qInv m_M_page 7 m_M_isPage 5 1 := ⟨213, _, by decide +kernel, rfl, rfl, wd_1038, wd_1040, ws_39, by decide +kernel⟩
theorem i_M_page_10 : decode m_M_page.2.1 10 = .ok (.ifCond .ne 7, 3) := by decide +kernel
theorem i_M_page_13 : decode m_M_page.2.1 13 = .ok (.iconst 1, 1) := by decide +kernel
theorem i_M_page_14 : decode m_M_page.2.1 14 = .ok (.goto 4, 3) := by decide +kernel
theorem i_M_page_17 : decode m_M_page.2.1 17 = .ok (.iconst 0, 1) := by decide +kernel
theorem i_M_page_18 : decode m_M_page.2.1 18 = .ok (.iload_n 2, 1) := by decide +kernel
theorem i_M_page_19 : decode m_M_page.2.1 19 = .ok (.ifCond .lt 8, 3) := by decide +kernel
theorem i_M_page_22 : decode m_M_page.2.1 22 = .ok (.iload_n 2, 1) := by decide +kernel
theorem i_M_page_23 : decode m_M_page.2.1 23 = .ok (.iconst 4, 1) := by decide +kernel
theorem i_M_page_24 : decode m_M_page.2.1 24 = .ok (.if_icmp .le 7, 3) := by decide +kernel
theorem i_M_page_27 : decode m_M_page.2.1 27 = .ok (.iconst 1, 1) := by decide +kernel
theorem i_M_page_28 : decode m_M_page.2.1 28 = .ok (.goto 4, 3) := by decide +kernel
theorem i_M_page_31 : decode m_M_page.2.1 31 = .ok (.iconst 0, 1) := by decide +kernel
theorem i_M_page_32 : decode m_M_page.2.1 32 = .ok (.iconst 0, 1) := by decide +kernel
theorem i_M_page_33 : qInv m_M_page 33 m_M_fails 5 4 := ⟨120, _, by decide +kernel, rfl, rfl, wd_926, wd_928, ws_21, by decide +kernel⟩
theorem i_M_page_36 : decode m_M_page.2.1 36 = .ok (.ifCond .eq 5, 3) := by decide +kernel
theorem i_M_page_39 : decode m_M_page.2.1 39 = .ok (.iconst 0, 1) := by decide +kernel
theorem i_M_page_40 : decode m_M_page.2.1 40 = .ok (.ireturn, 1) := by decide +kernel
theorem i_M_page_41 : decode m_M_page.2.1 41 = .ok (.iload_n 2, 1) := by decide +kernel
theorem i_M_page_42 : decode m_M_page.2.1 42 = .ok (.ifCond .ne 12, 3) := by decide +kernel
theorem i_M_page_45 : decode m_M_page.2.1 45 = .ok (.aload_n 0, 1) := by decide +kernel
theorem i_M_page_46 : qGet m_M_page 46 5 1 := ⟨7, _, by decide +kernel, rfl, by decide, rfl, Or.inl wd_782⟩
theorem i_M_page_49 : decode m_M_page.2.1 49 = .ok (.iload_n 1, 1) := by decide +kernel
theorem i_M_page_50 : decode m_M_page.2.1 50 = .ok (.iaload, 1) := by decide +kernel
theorem i_M_page_51 : decode m_M_page.2.1 51 = .ok (.goto 59, 3) := by decide +kernel
theorem i_M_page_54 : decode m_M_page.2.1 54 = .ok (.iload_n 2, 1) := by decide +kernel
theorem i_M_page_55 : decode m_M_page.2.1 55 = .ok (.iconst 1, 1) := by decide +kernel
theorem i_M_page_56 : decode m_M_page.2.1 56 = .ok (.if_icmp .ne 12, 3) := by decide +kernel
theorem i_M_page_59 : decode m_M_page.2.1 59 = .ok (.aload_n 0, 1) := by decide +kernel
theorem i_M_page_60 : qGet m_M_page 60 5 2 := ⟨13, _, by decide +kernel, rfl, by decide, rfl, Or.inl wd_783⟩
theorem i_M_page_63 : decode m_M_page.2.1 63 = .ok (.iload_n 1, 1) := by decide +kernel
theorem i_M_page_64 : decode m_M_page.2.1 64 = .ok (.iaload, 1) := by decide +kernel
theorem i_M_page_65 : decode m_M_page.2.1 65 = .ok (.goto 45, 3) := by decide +kernel
theorem i_M_page_68 : decode m_M_page.2.1 68 = .ok (.iload_n 2, 1) := by decide +kernel
theorem i_M_page_69 : decode m_M_page.2.1 69 = .ok (.iconst 2, 1) := by decide +kernel
theorem i_M_page_70 : decode m_M_page.2.1 70 = .ok (.if_icmp .ne 12, 3) := by decide +kernel
theorem i_M_page_73 : decode m_M_page.2.1 73 = .ok (.aload_n 0, 1) := by decide +kernel
theorem i_M_page_74 : qGet m_M_page 74 5 3 := ⟨16, _, by decide +kernel, rfl, by decide, rfl, Or.inl wd_784⟩
theorem i_M_page_77 : decode m_M_page.2.1 77 = .ok (.iload_n 1, 1) := by decide +kernel
theorem i_M_page_78 : decode m_M_page.2.1 78 = .ok (.iaload, 1) := by decide +kernel
theorem i_M_page_79 : decode m_M_page.2.1 79 = .ok (.goto 31, 3) := by decide +kernel
theorem i_M_page_82 : decode m_M_page.2.1 82 = .ok (.iload_n 2, 1) := by decide +kernel
theorem i_M_page_83 : decode m_M_page.2.1 83 = .ok (.iconst 3, 1) := by decide +kernel
theorem i_M_page_84 : decode m_M_page.2.1 84 = .ok (.if_icmp .ne 12, 3) := by decide +kernel
theorem i_M_page_87 : decode m_M_page.2.1 87 = .ok (.aload_n 0, 1) := by decide +kernel
theorem i_M_page_88 : qGet m_M_page 88 5 4 := ⟨19, _, by decide +kernel, rfl, by decide, rfl, Or.inl wd_785⟩
theorem i_M_page_91 : decode m_M_page.2.1 91 = .ok (.iload_n 1, 1) := by decide +kernel
theorem i_M_page_92 : decode m_M_page.2.1 92 = .ok (.iaload, 1) := by decide +kernel
theorem i_M_page_93 : decode m_M_page.2.1 93 = .ok (.goto 17, 3) := by decide +kernel
theorem i_M_page_96 : decode m_M_page.2.1 96 = .ok (.aload_n 0, 1) := by decide +kernel
theorem i_M_page_97 : qGet m_M_page 97 5 5 := ⟨22, _, by decide +kernel, rfl, by decide, rfl, Or.inl wd_786⟩
theorem i_M_page_100 : decode m_M_page.2.1 100 = .ok (.iload_n 1, 1) := by decide +kernel
theorem i_M_page_101 : decode m_M_page.2.1 101 = .ok (.baload, 1) := by decide +kernel
theorem i_M_page_102 : decode m_M_page.2.1 102 = .ok (.ifCond .eq 7, 3) := by decide +kernel
theorem i_M_page_105 : decode m_M_page.2.1 105 = .ok (.iconst 1, 1) := by decide +kernel
theorem i_M_page_106 : decode m_M_page.2.1 106 = .ok (.goto 4, 3) := by decide +kernel
theorem i_M_page_109 : decode m_M_page.2.1 109 = .ok (.iconst 0, 1) := by decide +kernel
theorem i_M_page_110 : decode m_M_page.2.1 110 = .ok (.ireturn, 1) := by decide +kernel
theorem i_M_alive_0 : decode m_M_alive.2.1 0 = .ok (.aload_n 0, 1) := by decide +kernel
theorem i_M_alive_1 : decode m_M_alive.2.1 1 = .ok (.aload_n 0, 1) := by decide +kernel
theorem i_M_alive_2 : qGet m_M_alive 2 5 25 := ⟨116, _, by decide +kernel, rfl, by decide, rfl, Or.inl wd_806⟩
theorem i_M_alive_5 : decode m_M_alive.2.1 5 = .ok (.aload_n 0, 1) := by decide +kernel
theorem i_M_alive_6 : decode m_M_alive.2.1 6 = .ok (.iload_n 1, 1) := by decide +kernel
theorem i_M_alive_7 : qInv m_M_alive 7 m_M_isPage 5 1 := ⟨213, _, by decide +kernel, rfl, rfl, wd_1038, wd_1040, ws_39, by decide +kernel⟩
theorem i_M_alive_10 : decode m_M_alive.2.1 10 = .ok (.ifCond .eq 11, 3) := by decide +kernel
theorem i_M_alive_13 : decode m_M_alive.2.1 13 = .ok (.aload_n 0, 1) := by decide +kernel
theorem i_M_alive_14 : decode m_M_alive.2.1 14 = .ok (.iload_n 2, 1) := by decide +kernel
theorem i_M_alive_15 : qInv m_M_alive 15 m_M_isVersion 5 1 := ⟨198, _, by decide +kernel, rfl, rfl, wd_998, wd_1000, ws_36, by decide +kernel⟩
theorem i_M_alive_18 : decode m_M_alive.2.1 18 = .ok (.ifCond .ne 7, 3) := by decide +kernel
theorem i_M_alive_21 : decode m_M_alive.2.1 21 = .ok (.iconst 1, 1) := by decide +kernel
theorem i_M_alive_22 : decode m_M_alive.2.1 22 = .ok (.goto 4, 3) := by decide +kernel
theorem i_M_alive_25 : decode m_M_alive.2.1 25 = .ok (.iconst 0, 1) := by decide +kernel
theorem i_M_alive_26 : decode m_M_alive.2.1 26 = .ok (.iconst 0, 1) := by decide +kernel
theorem i_M_alive_27 : decode m_M_alive.2.1 27 = .ok (.iconst 0, 1) := by decide +kernel
theorem i_M_alive_28 : qInv m_M_alive 28 m_M_fails 5 4 := ⟨120, _, by decide +kernel, rfl, rfl, wd_926, wd_928, ws_21, by decide +kernel⟩
theorem i_M_alive_31 : decode m_M_alive.2.1 31 = .ok (.ifCond .eq 5, 3) := by decide +kernel
theorem i_M_alive_34 : decode m_M_alive.2.1 34 = .ok (.iconst 0, 1) := by decide +kernel
theorem i_M_alive_35 : decode m_M_alive.2.1 35 = .ok (.ireturn, 1) := by decide +kernel
theorem i_M_alive_36 : decode m_M_alive.2.1 36 = .ok (.aload_n 0, 1) := by decide +kernel
theorem i_M_alive_37 : decode m_M_alive.2.1 37 = .ok (.iload_n 1, 1) := by decide +kernel
theorem i_M_alive_38 : decode m_M_alive.2.1 38 = .ok (.iload_n 2, 1) := by decide +kernel
theorem i_M_alive_39 : qInv m_M_alive 39 m_M_serves 5 2 := ⟨216, _, by decide +kernel, rfl, rfl, wd_1046, wd_1048, ws_40, by decide +kernel⟩
theorem i_M_alive_42 : decode m_M_alive.2.1 42 = .ok (.ifCond .eq 12, 3) := by decide +kernel
theorem i_M_alive_45 : decode m_M_alive.2.1 45 = .ok (.aload_n 0, 1) := by decide +kernel
theorem i_M_alive_46 : decode m_M_alive.2.1 46 = .ok (.iload_n 1, 1) := by decide +kernel
theorem i_M_alive_47 : decode m_M_alive.2.1 47 = .ok (.iload_n 2, 1) := by decide +kernel
theorem i_M_alive_48 : qInv m_M_alive 48 m_M_aliveIn 5 2 := ⟨219, _, by decide +kernel, rfl, rfl, wd_1050, wd_1052, ws_41, by decide +kernel⟩
theorem i_M_alive_51 : decode m_M_alive.2.1 51 = .ok (.goto 4, 3) := by decide +kernel
theorem i_M_alive_54 : decode m_M_alive.2.1 54 = .ok (.iconst (-1), 1) := by decide +kernel
theorem i_M_alive_55 : decode m_M_alive.2.1 55 = .ok (.ireturn, 1) := by decide +kernel
theorem i_M_entry_0 : decode m_M_entry.2.1 0 = .ok (.aload_n 0, 1) := by decide +kernel
theorem i_M_entry_1 : decode m_M_entry.2.1 1 = .ok (.iload_n 1, 1) := by decide +kernel
theorem i_M_entry_2 : qInv m_M_entry 2 m_M_isPage 5 1 := ⟨213, _, by decide +kernel, rfl, rfl, wd_1038, wd_1040, ws_39, by decide +kernel⟩
theorem i_M_entry_5 : decode m_M_entry.2.1 5 = .ok (.istore 4, 2) := by decide +kernel
theorem i_M_entry_7 : decode m_M_entry.2.1 7 = .ok (.iload 4, 2) := by decide +kernel
theorem i_M_entry_9 : decode m_M_entry.2.1 9 = .ok (.ifCond .eq 21, 3) := by decide +kernel
theorem i_M_entry_12 : decode m_M_entry.2.1 12 = .ok (.iload_n 2, 1) := by decide +kernel
theorem i_M_entry_13 : decode m_M_entry.2.1 13 = .ok (.ifCond .lt 17, 3) := by decide +kernel
theorem i_M_entry_16 : decode m_M_entry.2.1 16 = .ok (.iload_n 2, 1) := by decide +kernel
theorem i_M_entry_17 : decode m_M_entry.2.1 17 = .ok (.aload_n 0, 1) := by decide +kernel
theorem i_M_entry_18 : qGet m_M_entry 18 5 4 := ⟨19, _, by decide +kernel, rfl, by decide, rfl, Or.inl wd_785⟩
theorem i_M_entry_21 : decode m_M_entry.2.1 21 = .ok (.iload_n 1, 1) := by decide +kernel
theorem i_M_entry_22 : decode m_M_entry.2.1 22 = .ok (.iaload, 1) := by decide +kernel
theorem i_M_entry_23 : decode m_M_entry.2.1 23 = .ok (.if_icmp .ge 7, 3) := by decide +kernel
theorem i_M_entry_26 : decode m_M_entry.2.1 26 = .ok (.iconst 1, 1) := by decide +kernel
theorem i_M_entry_27 : decode m_M_entry.2.1 27 = .ok (.goto 4, 3) := by decide +kernel
theorem i_M_entry_30 : decode m_M_entry.2.1 30 = .ok (.iconst 0, 1) := by decide +kernel
theorem i_M_entry_31 : decode m_M_entry.2.1 31 = .ok (.istore 4, 2) := by decide +kernel
theorem i_M_entry_33 : decode m_M_entry.2.1 33 = .ok (.aload_n 0, 1) := by decide +kernel
theorem i_M_entry_34 : decode m_M_entry.2.1 34 = .ok (.aload_n 0, 1) := by decide +kernel
theorem i_M_entry_35 : qGet m_M_entry 35 5 25 := ⟨116, _, by decide +kernel, rfl, by decide, rfl, Or.inl wd_806⟩
theorem i_M_entry_38 : decode m_M_entry.2.1 38 = .ok (.iload 4, 2) := by decide +kernel
theorem i_M_entry_40 : decode m_M_entry.2.1 40 = .ok (.ifCond .ne 7, 3) := by decide +kernel
theorem i_M_entry_43 : decode m_M_entry.2.1 43 = .ok (.iconst 1, 1) := by decide +kernel
theorem i_M_entry_44 : decode m_M_entry.2.1 44 = .ok (.goto 4, 3) := by decide +kernel
theorem i_M_entry_47 : decode m_M_entry.2.1 47 = .ok (.iconst 0, 1) := by decide +kernel
theorem i_M_entry_48 : decode m_M_entry.2.1 48 = .ok (.iload_n 3, 1) := by decide +kernel
theorem i_M_entry_49 : decode m_M_entry.2.1 49 = .ok (.ifCond .lt 8, 3) := by decide +kernel
theorem i_M_entry_52 : decode m_M_entry.2.1 52 = .ok (.iload_n 3, 1) := by decide +kernel
theorem i_M_entry_53 : decode m_M_entry.2.1 53 = .ok (.iconst 3, 1) := by decide +kernel
theorem i_M_entry_54 : decode m_M_entry.2.1 54 = .ok (.if_icmp .le 7, 3) := by decide +kernel
theorem i_M_entry_57 : decode m_M_entry.2.1 57 = .ok (.iconst 1, 1) := by decide +kernel
theorem i_M_entry_58 : decode m_M_entry.2.1 58 = .ok (.goto 4, 3) := by decide +kernel
theorem i_M_entry_61 : decode m_M_entry.2.1 61 = .ok (.iconst 0, 1) := by decide +kernel
theorem i_M_entry_62 : decode m_M_entry.2.1 62 = .ok (.iconst 0, 1) := by decide +kernel
theorem i_M_entry_63 : qInv m_M_entry 63 m_M_fails 5 4 := ⟨120, _, by decide +kernel, rfl, rfl, wd_926, wd_928, ws_21, by decide +kernel⟩
theorem i_M_entry_66 : decode m_M_entry.2.1 66 = .ok (.ifCond .eq 5, 3) := by decide +kernel
theorem i_M_entry_69 : decode m_M_entry.2.1 69 = .ok (.lconst 0, 1) := by decide +kernel
theorem i_M_entry_70 : decode m_M_entry.2.1 70 = .ok (.lreturn, 1) := by decide +kernel
theorem i_M_entry_71 : decode m_M_entry.2.1 71 = .ok (.bipush 16, 2) := by decide +kernel
theorem i_M_entry_73 : decode m_M_entry.2.1 73 = .ok (.iload_n 1, 1) := by decide +kernel
theorem i_M_entry_74 : decode m_M_entry.2.1 74 = .ok (.imul, 1) := by decide +kernel
theorem i_M_entry_75 : decode m_M_entry.2.1 75 = .ok (.iload_n 2, 1) := by decide +kernel
theorem i_M_entry_76 : decode m_M_entry.2.1 76 = .ok (.iadd, 1) := by decide +kernel
theorem i_M_entry_77 : decode m_M_entry.2.1 77 = .ok (.istore 5, 2) := by decide +kernel
theorem i_M_entry_79 : decode m_M_entry.2.1 79 = .ok (.iload_n 3, 1) := by decide +kernel
theorem i_M_entry_80 : decode m_M_entry.2.1 80 = .ok (.ifCond .ne 14, 3) := by decide +kernel
theorem i_M_entry_83 : decode m_M_entry.2.1 83 = .ok (.aload_n 0, 1) := by decide +kernel
theorem i_M_entry_84 : qGet m_M_entry 84 5 6 := ⟨26, _, by decide +kernel, rfl, by decide, rfl, Or.inl wd_787⟩
theorem i_M_entry_87 : decode m_M_entry.2.1 87 = .ok (.iload 5, 2) := by decide +kernel
theorem i_M_entry_89 : decode m_M_entry.2.1 89 = .ok (.iaload, 1) := by decide +kernel
theorem i_M_entry_90 : decode m_M_entry.2.1 90 = .ok (.i2l, 1) := by decide +kernel
theorem i_M_entry_91 : decode m_M_entry.2.1 91 = .ok (.goto 42, 3) := by decide +kernel
theorem i_M_entry_94 : decode m_M_entry.2.1 94 = .ok (.iload_n 3, 1) := by decide +kernel
theorem i_M_entry_95 : decode m_M_entry.2.1 95 = .ok (.iconst 1, 1) := by decide +kernel
theorem i_M_entry_96 : decode m_M_entry.2.1 96 = .ok (.if_icmp .ne 14, 3) := by decide +kernel
theorem i_M_entry_99 : decode m_M_entry.2.1 99 = .ok (.aload_n 0, 1) := by decide +kernel
theorem i_M_entry_100 : qGet m_M_entry 100 5 7 := ⟨29, _, by decide +kernel, rfl, by decide, rfl, Or.inl wd_788⟩
theorem i_M_entry_103 : decode m_M_entry.2.1 103 = .ok (.iload 5, 2) := by decide +kernel
theorem i_M_entry_105 : decode m_M_entry.2.1 105 = .ok (.iaload, 1) := by decide +kernel
theorem i_M_entry_106 : decode m_M_entry.2.1 106 = .ok (.i2l, 1) := by decide +kernel
theorem i_M_entry_107 : decode m_M_entry.2.1 107 = .ok (.goto 26, 3) := by decide +kernel
theorem i_M_entry_110 : decode m_M_entry.2.1 110 = .ok (.iload_n 3, 1) := by decide +kernel
theorem i_M_entry_111 : decode m_M_entry.2.1 111 = .ok (.iconst 2, 1) := by decide +kernel
theorem i_M_entry_112 : decode m_M_entry.2.1 112 = .ok (.if_icmp .ne 14, 3) := by decide +kernel
theorem i_M_entry_115 : decode m_M_entry.2.1 115 = .ok (.aload_n 0, 1) := by decide +kernel
theorem i_M_entry_116 : qGet m_M_entry 116 5 8 := ⟨32, _, by decide +kernel, rfl, by decide, rfl, Or.inl wd_789⟩
theorem i_M_entry_119 : decode m_M_entry.2.1 119 = .ok (.iload 5, 2) := by decide +kernel
theorem i_M_entry_121 : decode m_M_entry.2.1 121 = .ok (.iaload, 1) := by decide +kernel
theorem i_M_entry_122 : decode m_M_entry.2.1 122 = .ok (.i2l, 1) := by decide +kernel
theorem i_M_entry_123 : decode m_M_entry.2.1 123 = .ok (.goto 10, 3) := by decide +kernel
theorem i_M_entry_126 : decode m_M_entry.2.1 126 = .ok (.aload_n 0, 1) := by decide +kernel
theorem i_M_entry_127 : qGet m_M_entry 127 5 9 := ⟨35, _, by decide +kernel, rfl, by decide, rfl, Or.inl wd_790⟩
theorem i_M_entry_130 : decode m_M_entry.2.1 130 = .ok (.iload 5, 2) := by decide +kernel
theorem i_M_entry_132 : decode m_M_entry.2.1 132 = .ok (.laload, 1) := by decide +kernel
theorem i_M_entry_133 : decode m_M_entry.2.1 133 = .ok (.lreturn, 1) := by decide +kernel
theorem i_M_root_0 : decode m_M_root.2.1 0 = .ok (.aload_n 0, 1) := by decide +kernel
theorem i_M_root_1 : decode m_M_root.2.1 1 = .ok (.aload_n 0, 1) := by decide +kernel
theorem i_M_root_2 : qGet m_M_root 2 5 25 := ⟨116, _, by decide +kernel, rfl, by decide, rfl, Or.inl wd_806⟩
theorem i_M_root_5 : decode m_M_root.2.1 5 = .ok (.aload_n 0, 1) := by decide +kernel
theorem i_M_root_6 : decode m_M_root.2.1 6 = .ok (.iload_n 1, 1) := by decide +kernel
theorem i_M_root_7 : qInv m_M_root 7 m_M_isVersion 5 1 := ⟨198, _, by decide +kernel, rfl, rfl, wd_998, wd_1000, ws_36, by decide +kernel⟩
theorem i_M_root_10 : decode m_M_root.2.1 10 = .ok (.ifCond .ne 7, 3) := by decide +kernel
theorem i_M_root_13 : decode m_M_root.2.1 13 = .ok (.iconst 1, 1) := by decide +kernel
theorem i_M_root_14 : decode m_M_root.2.1 14 = .ok (.goto 4, 3) := by decide +kernel
theorem i_M_root_17 : decode m_M_root.2.1 17 = .ok (.iconst 0, 1) := by decide +kernel
theorem i_M_root_18 : decode m_M_root.2.1 18 = .ok (.iconst 0, 1) := by decide +kernel
theorem i_M_root_19 : decode m_M_root.2.1 19 = .ok (.iconst 0, 1) := by decide +kernel
theorem i_M_root_20 : qInv m_M_root 20 m_M_fails 5 4 := ⟨120, _, by decide +kernel, rfl, rfl, wd_926, wd_928, ws_21, by decide +kernel⟩
theorem i_M_root_23 : decode m_M_root.2.1 23 = .ok (.ifCond .eq 7, 3) := by decide +kernel
theorem i_M_root_26 : decode m_M_root.2.1 26 = .ok (.iconst 0, 1) := by decide +kernel
theorem i_M_root_27 : decode m_M_root.2.1 27 = .ok (.goto 9, 3) := by decide +kernel
theorem i_M_root_30 : decode m_M_root.2.1 30 = .ok (.aload_n 0, 1) := by decide +kernel
theorem i_M_root_31 : qGet m_M_root 31 5 14 := ⟨46, _, by decide +kernel, rfl, by decide, rfl, Or.inl wd_795⟩
theorem i_M_root_34 : decode m_M_root.2.1 34 = .ok (.iload_n 1, 1) := by decide +kernel
theorem i_M_root_35 : decode m_M_root.2.1 35 = .ok (.iaload, 1) := by decide +kernel
theorem i_M_root_36 : decode m_M_root.2.1 36 = .ok (.ireturn, 1) := by decide +kernel
theorem i_M_bound_0 : decode m_M_bound.2.1 0 = .ok (.aload_n 0, 1) := by decide +kernel
theorem i_M_bound_1 : qInv m_M_bound 1 m_M_isDown 5 0 := ⟨195, _, by decide +kernel, rfl, rfl, wd_990, wd_992, ws_35, by decide +kernel⟩
theorem i_M_bound_4 : decode m_M_bound.2.1 4 = .ok (.ifCond .eq 7, 3) := by decide +kernel
theorem i_M_bound_7 : decode m_M_bound.2.1 7 = .ok (.iconst 0, 1) := by decide +kernel
theorem i_M_bound_8 : decode m_M_bound.2.1 8 = .ok (.goto 11, 3) := by decide +kernel
theorem i_M_bound_11 : decode m_M_bound.2.1 11 = .ok (.iconst 2, 1) := by decide +kernel
theorem i_M_bound_12 : decode m_M_bound.2.1 12 = .ok (.iconst 2, 1) := by decide +kernel
theorem i_M_bound_13 : decode m_M_bound.2.1 13 = .ok (.aload_n 0, 1) := by decide +kernel
theorem i_M_bound_14 : qGet m_M_bound 14 5 12 := ⟨145, _, by decide +kernel, rfl, by decide, rfl, Or.inl wd_793⟩
theorem i_M_bound_17 : decode m_M_bound.2.1 17 = .ok (.imul, 1) := by decide +kernel
theorem i_M_bound_18 : decode m_M_bound.2.1 18 = .ok (.iadd, 1) := by decide +kernel
theorem i_M_bound_19 : decode m_M_bound.2.1 19 = .ok (.ireturn, 1) := by decide +kernel
theorem i_M_dense_0 : decode m_M_dense.2.1 0 = .ok (.aload_n 0, 1) := by decide +kernel
theorem i_M_dense_1 : qInv m_M_dense 1 m_M_isDown 5 0 := ⟨195, _, by decide +kernel, rfl, rfl, wd_990, wd_992, ws_35, by decide +kernel⟩
theorem i_M_dense_4 : decode m_M_dense.2.1 4 = .ok (.ifCond .eq 5, 3) := by decide +kernel
theorem i_M_dense_7 : decode m_M_dense.2.1 7 = .ok (.iconst 0, 1) := by decide +kernel
theorem i_M_dense_8 : decode m_M_dense.2.1 8 = .ok (.ireturn, 1) := by decide +kernel
theorem i_M_dense_9 : decode m_M_dense.2.1 9 = .ok (.iconst 1, 1) := by decide +kernel
theorem i_M_dense_10 : decode m_M_dense.2.1 10 = .ok (.istore_n 1, 1) := by decide +kernel
theorem i_M_dense_11 : decode m_M_dense.2.1 11 = .ok (.iconst 0, 1) := by decide +kernel
theorem i_M_dense_12 : decode m_M_dense.2.1 12 = .ok (.istore_n 2, 1) := by decide +kernel
theorem i_M_dense_13 : decode m_M_dense.2.1 13 = .ok (.iload_n 2, 1) := by decide +kernel
theorem i_M_dense_14 : decode m_M_dense.2.1 14 = .ok (.aload_n 0, 1) := by decide +kernel
theorem i_M_dense_15 : qGet m_M_dense 15 5 10 := ⟨39, _, by decide +kernel, rfl, by decide, rfl, Or.inl wd_791⟩
theorem i_M_dense_18 : decode m_M_dense.2.1 18 = .ok (.if_icmp .ge 86, 3) := by decide +kernel
theorem i_M_dense_21 : decode m_M_dense.2.1 21 = .ok (.aload_n 0, 1) := by decide +kernel
theorem i_M_dense_22 : qGet m_M_dense 22 5 3 := ⟨16, _, by decide +kernel, rfl, by decide, rfl, Or.inl wd_784⟩
theorem i_M_dense_25 : decode m_M_dense.2.1 25 = .ok (.iload_n 2, 1) := by decide +kernel
theorem i_M_dense_26 : decode m_M_dense.2.1 26 = .ok (.iaload, 1) := by decide +kernel
theorem i_M_dense_27 : decode m_M_dense.2.1 27 = .ok (.ifCond .ge 10, 3) := by decide +kernel
theorem i_M_dense_30 : decode m_M_dense.2.1 30 = .ok (.aload_n 0, 1) := by decide +kernel
theorem i_M_dense_31 : qGet m_M_dense 31 5 12 := ⟨145, _, by decide +kernel, rfl, by decide, rfl, Or.inl wd_793⟩
theorem i_M_dense_34 : decode m_M_dense.2.1 34 = .ok (.goto 11, 3) := by decide +kernel
theorem i_M_dense_37 : decode m_M_dense.2.1 37 = .ok (.aload_n 0, 1) := by decide +kernel
theorem i_M_dense_38 : qGet m_M_dense 38 5 3 := ⟨16, _, by decide +kernel, rfl, by decide, rfl, Or.inl wd_784⟩
theorem i_M_dense_41 : decode m_M_dense.2.1 41 = .ok (.iload_n 2, 1) := by decide +kernel
theorem i_M_dense_42 : decode m_M_dense.2.1 42 = .ok (.iaload, 1) := by decide +kernel
theorem i_M_dense_43 : decode m_M_dense.2.1 43 = .ok (.iconst 1, 1) := by decide +kernel
theorem i_M_dense_44 : decode m_M_dense.2.1 44 = .ok (.isub, 1) := by decide +kernel
theorem i_M_dense_45 : decode m_M_dense.2.1 45 = .ok (.istore_n 3, 1) := by decide +kernel
theorem i_M_dense_46 : decode m_M_dense.2.1 46 = .ok (.aload_n 0, 1) := by decide +kernel
theorem i_M_dense_47 : qGet m_M_dense 47 5 2 := ⟨13, _, by decide +kernel, rfl, by decide, rfl, Or.inl wd_783⟩
theorem i_M_dense_50 : decode m_M_dense.2.1 50 = .ok (.iload_n 2, 1) := by decide +kernel
theorem i_M_dense_51 : decode m_M_dense.2.1 51 = .ok (.iaload, 1) := by decide +kernel
theorem i_M_dense_52 : decode m_M_dense.2.1 52 = .ok (.istore 4, 2) := by decide +kernel
theorem i_M_dense_54 : decode m_M_dense.2.1 54 = .ok (.iload 4, 2) := by decide +kernel
theorem i_M_dense_56 : decode m_M_dense.2.1 56 = .ok (.iload_n 3, 1) := by decide +kernel
theorem i_M_dense_57 : decode m_M_dense.2.1 57 = .ok (.if_icmp .gt 41, 3) := by decide +kernel
theorem i_M_dense_60 : decode m_M_dense.2.1 60 = .ok (.iload_n 1, 1) := by decide +kernel
theorem i_M_dense_61 : decode m_M_dense.2.1 61 = .ok (.ifCond .eq 29, 3) := by decide +kernel
theorem i_M_dense_64 : decode m_M_dense.2.1 64 = .ok (.aload_n 0, 1) := by decide +kernel
theorem i_M_dense_65 : qGet m_M_dense 65 5 14 := ⟨46, _, by decide +kernel, rfl, by decide, rfl, Or.inl wd_795⟩
theorem i_M_dense_68 : decode m_M_dense.2.1 68 = .ok (.iload 4, 2) := by decide +kernel
theorem i_M_dense_70 : decode m_M_dense.2.1 70 = .ok (.iaload, 1) := by decide +kernel
theorem i_M_dense_71 : decode m_M_dense.2.1 71 = .ok (.iload_n 2, 1) := by decide +kernel
theorem i_M_dense_72 : decode m_M_dense.2.1 72 = .ok (.if_icmp .eq 14, 3) := by decide +kernel
theorem i_M_dense_75 : decode m_M_dense.2.1 75 = .ok (.aload_n 0, 1) := by decide +kernel
theorem i_M_dense_76 : decode m_M_dense.2.1 76 = .ok (.iload_n 2, 1) := by decide +kernel
theorem i_M_dense_77 : decode m_M_dense.2.1 77 = .ok (.iload 4, 2) := by decide +kernel
theorem i_M_dense_79 : qInv m_M_dense 79 m_M_aliveIn 5 2 := ⟨219, _, by decide +kernel, rfl, rfl, wd_1050, wd_1052, ws_41, by decide +kernel⟩
theorem i_M_dense_82 : decode m_M_dense.2.1 82 = .ok (.iconst 2, 1) := by decide +kernel
theorem i_M_dense_83 : decode m_M_dense.2.1 83 = .ok (.if_icmp .le 7, 3) := by decide +kernel
theorem i_M_dense_86 : decode m_M_dense.2.1 86 = .ok (.iconst 1, 1) := by decide +kernel
theorem i_M_dense_87 : decode m_M_dense.2.1 87 = .ok (.goto 4, 3) := by decide +kernel
theorem i_M_dense_90 : decode m_M_dense.2.1 90 = .ok (.iconst 0, 1) := by decide +kernel
theorem i_M_dense_91 : decode m_M_dense.2.1 91 = .ok (.istore_n 1, 1) := by decide +kernel
theorem i_M_dense_92 : decode m_M_dense.2.1 92 = .ok (.iinc 4 1, 3) := by decide +kernel
theorem i_M_dense_95 : decode m_M_dense.2.1 95 = .ok (.goto (-41), 3) := by decide +kernel
theorem i_M_dense_98 : decode m_M_dense.2.1 98 = .ok (.iinc 2 1, 3) := by decide +kernel
theorem i_M_dense_101 : decode m_M_dense.2.1 101 = .ok (.goto (-88), 3) := by decide +kernel
theorem i_M_dense_104 : decode m_M_dense.2.1 104 = .ok (.iload_n 1, 1) := by decide +kernel
theorem i_M_dense_105 : decode m_M_dense.2.1 105 = .ok (.ireturn, 1) := by decide +kernel
theorem i_M_writes_0 : decode m_M_writes.2.1 0 = .ok (.aload_n 0, 1) := by decide +kernel
theorem i_M_writes_1 : qGet m_M_writes 1 5 26 := ⟨73, _, by decide +kernel, rfl, by decide, rfl, Or.inl wd_807⟩
theorem i_M_writes_4 : decode m_M_writes.2.1 4 = .ok (.ifCond .ne 9, 3) := by decide +kernel
theorem i_M_writes_7 : decode m_M_writes.2.1 7 = .ok (.aload_n 0, 1) := by decide +kernel
theorem i_M_writes_8 : qInv m_M_writes 8 m_M_goDown 5 0 := ⟨222, _, by decide +kernel, rfl, rfl, wd_1078, wd_1080, ws_43, by decide +kernel⟩
theorem i_M_writes_11 : decode m_M_writes.2.1 11 = .ok (.iconst 0, 1) := by decide +kernel
theorem i_M_writes_12 : decode m_M_writes.2.1 12 = .ok (.ireturn, 1) := by decide +kernel
theorem i_M_writes_13 : decode m_M_writes.2.1 13 = .ok (.aload_n 0, 1) := by decide +kernel
theorem i_M_writes_14 : decode m_M_writes.2.1 14 = .ok (.dup, 1) := by decide +kernel
theorem i_M_writes_15 : qGet m_M_writes 15 5 26 := ⟨73, _, by decide +kernel, rfl, by decide, rfl, Or.inl wd_807⟩
theorem i_M_writes_18 : decode m_M_writes.2.1 18 = .ok (.aload_n 0, 1) := by decide +kernel
theorem i_M_writes_19 : qGet m_M_writes 19 5 26 := ⟨73, _, by decide +kernel, rfl, by decide, rfl, Or.inl wd_807⟩
theorem i_M_writes_22 : decode m_M_writes.2.1 22 = .ok (.ifCond .le 7, 3) := by decide +kernel
theorem i_M_writes_25 : decode m_M_writes.2.1 25 = .ok (.iconst 1, 1) := by decide +kernel
theorem i_M_writes_26 : decode m_M_writes.2.1 26 = .ok (.goto 4, 3) := by decide +kernel
theorem i_M_writes_29 : decode m_M_writes.2.1 29 = .ok (.iconst 0, 1) := by decide +kernel
theorem i_M_writes_30 : decode m_M_writes.2.1 30 = .ok (.isub, 1) := by decide +kernel
theorem i_M_writes_31 : qPut m_M_writes 31 5 26 := ⟨73, _, by decide +kernel, rfl, by decide, rfl, Or.inl rfl, Or.inl wd_807⟩
theorem i_M_writes_34 : decode m_M_writes.2.1 34 = .ok (.aload_n 0, 1) := by decide +kernel
theorem i_M_writes_35 : decode m_M_writes.2.1 35 = .ok (.dup, 1) := by decide +kernel
theorem i_M_writes_36 : qGet m_M_writes 36 5 27 := ⟨225, _, by decide +kernel, rfl, by decide, rfl, Or.inl wd_808⟩
theorem i_M_writes_39 : decode m_M_writes.2.1 39 = .ok (.iconst 1, 1) := by decide +kernel
theorem i_M_writes_40 : decode m_M_writes.2.1 40 = .ok (.iadd, 1) := by decide +kernel
theorem i_M_writes_41 : qPut m_M_writes 41 5 27 := ⟨225, _, by decide +kernel, rfl, by decide, rfl, Or.inl rfl, Or.inl wd_808⟩
theorem i_M_writes_44 : decode m_M_writes.2.1 44 = .ok (.iconst 1, 1) := by decide +kernel
theorem i_M_writes_45 : decode m_M_writes.2.1 45 = .ok (.ireturn, 1) := by decide +kernel
theorem i_M_goDown_0 : decode m_M_goDown.2.1 0 = .ok (.aload_n 0, 1) := by decide +kernel
theorem i_M_goDown_1 : decode m_M_goDown.2.1 1 = .ok (.iconst 1, 1) := by decide +kernel
theorem i_M_goDown_2 : qPut m_M_goDown 2 5 25 := ⟨116, _, by decide +kernel, rfl, by decide, rfl, Or.inl rfl, Or.inl wd_806⟩
theorem i_M_goDown_5 : decode m_M_goDown.2.1 5 = .ok (.aload_n 0, 1) := by decide +kernel
theorem i_M_goDown_6 : decode m_M_goDown.2.1 6 = .ok (.iconst (-1), 1) := by decide +kernel
theorem i_M_goDown_7 : qPut m_M_goDown 7 5 26 := ⟨73, _, by decide +kernel, rfl, by decide, rfl, Or.inl rfl, Or.inl wd_807⟩
theorem i_M_goDown_10 : decode m_M_goDown.2.1 10 = .ok (.aload_n 0, 1) := by decide +kernel
theorem i_M_goDown_11 : decode m_M_goDown.2.1 11 = .ok (.iconst 0, 1) := by decide +kernel
theorem i_M_goDown_12 : qPut m_M_goDown 12 5 21 := ⟨180, _, by decide +kernel, rfl, by decide, rfl, Or.inl rfl, Or.inl wd_802⟩
theorem i_M_goDown_15 : decode m_M_goDown.2.1 15 = .ok (.return_, 1) := by decide +kernel
theorem i_M_sync_0 : decode m_M_sync.2.1 0 = .ok (.aload_n 0, 1) := by decide +kernel
theorem i_M_sync_1 : qGet m_M_sync 1 5 21 := ⟨180, _, by decide +kernel, rfl, by decide, rfl, Or.inl wd_802⟩
theorem i_M_sync_4 : decode m_M_sync.2.1 4 = .ok (.iconst 3, 1) := by decide +kernel
theorem i_M_sync_5 : decode m_M_sync.2.1 5 = .ok (.iadd, 1) := by decide +kernel
theorem i_M_sync_6 : decode m_M_sync.2.1 6 = .ok (.iconst 4, 1) := by decide +kernel
theorem i_M_sync_7 : decode m_M_sync.2.1 7 = .ok (.idiv, 1) := by decide +kernel
theorem i_M_sync_8 : decode m_M_sync.2.1 8 = .ok (.istore_n 1, 1) := by decide +kernel
theorem i_M_sync_9 : decode m_M_sync.2.1 9 = .ok (.aload_n 0, 1) := by decide +kernel
theorem i_M_sync_10 : decode m_M_sync.2.1 10 = .ok (.aload_n 0, 1) := by decide +kernel
theorem i_M_sync_11 : qGet m_M_sync 11 5 25 := ⟨116, _, by decide +kernel, rfl, by decide, rfl, Or.inl wd_806⟩
theorem i_M_sync_14 : decode m_M_sync.2.1 14 = .ok (.aload_n 0, 1) := by decide +kernel
theorem i_M_sync_15 : qGet m_M_sync 15 5 25 := ⟨116, _, by decide +kernel, rfl, by decide, rfl, Or.inl wd_806⟩
theorem i_M_sync_18 : decode m_M_sync.2.1 18 = .ok (.ifCond .ne 18, 3) := by decide +kernel
theorem i_M_sync_21 : decode m_M_sync.2.1 21 = .ok (.aload_n 0, 1) := by decide +kernel
theorem i_M_sync_22 : qGet m_M_sync 22 5 20 := ⟨228, _, by decide +kernel, rfl, by decide, rfl, Or.inl wd_801⟩
theorem i_M_sync_25 : decode m_M_sync.2.1 25 = .ok (.iload_n 1, 1) := by decide +kernel
theorem i_M_sync_26 : decode m_M_sync.2.1 26 = .ok (.iadd, 1) := by decide +kernel
theorem i_M_sync_27 : decode m_M_sync.2.1 27 = .ok (.bipush 40, 2) := by decide +kernel
theorem i_M_sync_29 : decode m_M_sync.2.1 29 = .ok (.if_icmp .le 7, 3) := by decide +kernel
theorem i_M_sync_32 : decode m_M_sync.2.1 32 = .ok (.iconst 1, 1) := by decide +kernel
theorem i_M_sync_33 : decode m_M_sync.2.1 33 = .ok (.goto 4, 3) := by decide +kernel
theorem i_M_sync_36 : decode m_M_sync.2.1 36 = .ok (.iconst 0, 1) := by decide +kernel
theorem i_M_sync_37 : decode m_M_sync.2.1 37 = .ok (.iconst 0, 1) := by decide +kernel
theorem i_M_sync_38 : decode m_M_sync.2.1 38 = .ok (.iconst 0, 1) := by decide +kernel
theorem i_M_sync_39 : qInv m_M_sync 39 m_M_fails 5 4 := ⟨120, _, by decide +kernel, rfl, rfl, wd_926, wd_928, ws_21, by decide +kernel⟩
theorem i_M_sync_42 : decode m_M_sync.2.1 42 = .ok (.ifCond .eq 5, 3) := by decide +kernel
theorem i_M_sync_45 : decode m_M_sync.2.1 45 = .ok (.iconst 0, 1) := by decide +kernel
theorem i_M_sync_46 : decode m_M_sync.2.1 46 = .ok (.ireturn, 1) := by decide +kernel
theorem i_M_sync_47 : decode m_M_sync.2.1 47 = .ok (.iconst 0, 1) := by decide +kernel
theorem i_M_sync_48 : decode m_M_sync.2.1 48 = .ok (.istore_n 2, 1) := by decide +kernel
theorem i_M_sync_49 : decode m_M_sync.2.1 49 = .ok (.aload_n 0, 1) := by decide +kernel
theorem i_M_sync_50 : qGet m_M_sync 50 5 21 := ⟨180, _, by decide +kernel, rfl, by decide, rfl, Or.inl wd_802⟩
theorem i_M_sync_53 : decode m_M_sync.2.1 53 = .ok (.istore_n 3, 1) := by decide +kernel
theorem i_M_sync_54 : decode m_M_sync.2.1 54 = .ok (.iconst 0, 1) := by decide +kernel
theorem i_M_sync_55 : decode m_M_sync.2.1 55 = .ok (.istore 4, 2) := by decide +kernel
theorem i_M_sync_57 : decode m_M_sync.2.1 57 = .ok (.iload 4, 2) := by decide +kernel
theorem i_M_sync_59 : decode m_M_sync.2.1 59 = .ok (.iload_n 1, 1) := by decide +kernel
theorem i_M_sync_60 : decode m_M_sync.2.1 60 = .ok (.if_icmp .ge 147, 3) := by decide +kernel
theorem i_M_sync_63 : decode m_M_sync.2.1 63 = .ok (.aload_n 0, 1) := by decide +kernel
theorem i_M_sync_64 : qInv m_M_sync 64 m_M_writes 5 0 := ⟨231, _, by decide +kernel, rfl, rfl, wd_1074, wd_1076, ws_42, by decide +kernel⟩
theorem i_M_sync_67 : decode m_M_sync.2.1 67 = .ok (.ifCond .ne 10, 3) := by decide +kernel
theorem i_M_sync_70 : decode m_M_sync.2.1 70 = .ok (.aload_n 0, 1) := by decide +kernel
theorem i_M_sync_71 : decode m_M_sync.2.1 71 = .ok (.iconst 1, 1) := by decide +kernel
theorem i_M_sync_72 : qPut m_M_sync 72 5 0 := ⟨113, _, by decide +kernel, rfl, by decide, rfl, Or.inl rfl, Or.inl wd_781⟩
theorem i_M_sync_75 : decode m_M_sync.2.1 75 = .ok (.iconst 0, 1) := by decide +kernel
theorem i_M_sync_76 : decode m_M_sync.2.1 76 = .ok (.ireturn, 1) := by decide +kernel
theorem i_M_sync_77 : decode m_M_sync.2.1 77 = .ok (.aload_n 0, 1) := by decide +kernel
theorem i_M_sync_78 : qGet m_M_sync 78 5 15 := ⟨49, _, by decide +kernel, rfl, by decide, rfl, Or.inl wd_796⟩
theorem i_M_sync_81 : decode m_M_sync.2.1 81 = .ok (.aload_n 0, 1) := by decide +kernel
theorem i_M_sync_82 : qGet m_M_sync 82 5 20 := ⟨228, _, by decide +kernel, rfl, by decide, rfl, Or.inl wd_801⟩
theorem i_M_sync_85 : decode m_M_sync.2.1 85 = .ok (.iconst 0, 1) := by decide +kernel
theorem i_M_sync_86 : decode m_M_sync.2.1 86 = .ok (.iastore, 1) := by decide +kernel
theorem i_M_sync_87 : decode m_M_sync.2.1 87 = .ok (.aload_n 0, 1) := by decide +kernel
theorem i_M_sync_88 : qGet m_M_sync 88 5 16 := ⟨52, _, by decide +kernel, rfl, by decide, rfl, Or.inl wd_797⟩
theorem i_M_sync_91 : decode m_M_sync.2.1 91 = .ok (.aload_n 0, 1) := by decide +kernel
theorem i_M_sync_92 : qGet m_M_sync 92 5 20 := ⟨228, _, by decide +kernel, rfl, by decide, rfl, Or.inl wd_801⟩
theorem i_M_sync_95 : decode m_M_sync.2.1 95 = .ok (.iconst 0, 1) := by decide +kernel
theorem i_M_sync_96 : decode m_M_sync.2.1 96 = .ok (.bastore, 1) := by decide +kernel
theorem i_M_sync_97 : decode m_M_sync.2.1 97 = .ok (.aload_n 0, 1) := by decide +kernel
theorem i_M_sync_98 : qGet m_M_sync 98 5 15 := ⟨49, _, by decide +kernel, rfl, by decide, rfl, Or.inl wd_796⟩
theorem i_M_sync_101 : decode m_M_sync.2.1 101 = .ok (.aload_n 0, 1) := by decide +kernel
theorem i_M_sync_102 : qGet m_M_sync 102 5 20 := ⟨228, _, by decide +kernel, rfl, by decide, rfl, Or.inl wd_801⟩
theorem i_M_sync_105 : decode m_M_sync.2.1 105 = .ok (.iaload, 1) := by decide +kernel
theorem i_M_sync_106 : decode m_M_sync.2.1 106 = .ok (.iconst 4, 1) := by decide +kernel
theorem i_M_sync_107 : decode m_M_sync.2.1 107 = .ok (.if_icmp .ge 84, 3) := by decide +kernel
theorem i_M_sync_110 : decode m_M_sync.2.1 110 = .ok (.iload_n 2, 1) := by decide +kernel
theorem i_M_sync_111 : decode m_M_sync.2.1 111 = .ok (.iload_n 3, 1) := by decide +kernel
theorem i_M_sync_112 : decode m_M_sync.2.1 112 = .ok (.if_icmp .ge 79, 3) := by decide +kernel
theorem i_M_sync_115 : decode m_M_sync.2.1 115 = .ok (.iconst 4, 1) := by decide +kernel
theorem i_M_sync_116 : decode m_M_sync.2.1 116 = .ok (.aload_n 0, 1) := by decide +kernel
theorem i_M_sync_117 : qGet m_M_sync 117 5 20 := ⟨228, _, by decide +kernel, rfl, by decide, rfl, Or.inl wd_801⟩
theorem i_M_sync_120 : decode m_M_sync.2.1 120 = .ok (.imul, 1) := by decide +kernel
theorem i_M_sync_121 : decode m_M_sync.2.1 121 = .ok (.aload_n 0, 1) := by decide +kernel
theorem i_M_sync_122 : qGet m_M_sync 122 5 15 := ⟨49, _, by decide +kernel, rfl, by decide, rfl, Or.inl wd_796⟩
theorem i_M_sync_125 : decode m_M_sync.2.1 125 = .ok (.aload_n 0, 1) := by decide +kernel
theorem i_M_sync_126 : qGet m_M_sync 126 5 20 := ⟨228, _, by decide +kernel, rfl, by decide, rfl, Or.inl wd_801⟩
theorem i_M_sync_129 : decode m_M_sync.2.1 129 = .ok (.iaload, 1) := by decide +kernel
theorem i_M_sync_130 : decode m_M_sync.2.1 130 = .ok (.iadd, 1) := by decide +kernel
theorem i_M_sync_131 : decode m_M_sync.2.1 131 = .ok (.istore 5, 2) := by decide +kernel
theorem i_M_sync_133 : decode m_M_sync.2.1 133 = .ok (.aload_n 0, 1) := by decide +kernel
theorem i_M_sync_134 : qGet m_M_sync 134 5 17 := ⟨55, _, by decide +kernel, rfl, by decide, rfl, Or.inl wd_798⟩
theorem i_M_sync_137 : decode m_M_sync.2.1 137 = .ok (.iload 5, 2) := by decide +kernel
theorem i_M_sync_139 : decode m_M_sync.2.1 139 = .ok (.aload_n 0, 1) := by decide +kernel
theorem i_M_sync_140 : qGet m_M_sync 140 5 22 := ⟨64, _, by decide +kernel, rfl, by decide, rfl, Or.inl wd_803⟩
theorem i_M_sync_143 : decode m_M_sync.2.1 143 = .ok (.iload_n 2, 1) := by decide +kernel
theorem i_M_sync_144 : decode m_M_sync.2.1 144 = .ok (.baload, 1) := by decide +kernel
theorem i_M_sync_145 : decode m_M_sync.2.1 145 = .ok (.bastore, 1) := by decide +kernel
theorem i_M_sync_146 : decode m_M_sync.2.1 146 = .ok (.aload_n 0, 1) := by decide +kernel
theorem i_M_sync_147 : qGet m_M_sync 147 5 18 := ⟨58, _, by decide +kernel, rfl, by decide, rfl, Or.inl wd_799⟩
theorem i_M_sync_150 : decode m_M_sync.2.1 150 = .ok (.iload 5, 2) := by decide +kernel
theorem i_M_sync_152 : decode m_M_sync.2.1 152 = .ok (.aload_n 0, 1) := by decide +kernel
theorem i_M_sync_153 : qGet m_M_sync 153 5 23 := ⟨67, _, by decide +kernel, rfl, by decide, rfl, Or.inl wd_804⟩
theorem i_M_sync_156 : decode m_M_sync.2.1 156 = .ok (.iload_n 2, 1) := by decide +kernel
theorem i_M_sync_157 : decode m_M_sync.2.1 157 = .ok (.iaload, 1) := by decide +kernel
theorem i_M_sync_158 : decode m_M_sync.2.1 158 = .ok (.iastore, 1) := by decide +kernel
theorem i_M_sync_159 : decode m_M_sync.2.1 159 = .ok (.aload_n 0, 1) := by decide +kernel
theorem i_M_sync_160 : qGet m_M_sync 160 5 19 := ⟨61, _, by decide +kernel, rfl, by decide, rfl, Or.inl wd_800⟩
theorem i_M_sync_163 : decode m_M_sync.2.1 163 = .ok (.iload 5, 2) := by decide +kernel
theorem i_M_sync_165 : decode m_M_sync.2.1 165 = .ok (.aload_n 0, 1) := by decide +kernel
theorem i_M_sync_166 : qGet m_M_sync 166 5 24 := ⟨70, _, by decide +kernel, rfl, by decide, rfl, Or.inl wd_805⟩
theorem i_M_sync_169 : decode m_M_sync.2.1 169 = .ok (.iload_n 2, 1) := by decide +kernel
theorem i_M_sync_170 : decode m_M_sync.2.1 170 = .ok (.laload, 1) := by decide +kernel
theorem i_M_sync_171 : decode m_M_sync.2.1 171 = .ok (.lastore, 1) := by decide +kernel
theorem i_M_sync_172 : decode m_M_sync.2.1 172 = .ok (.aload_n 0, 1) := by decide +kernel
theorem i_M_sync_173 : qGet m_M_sync 173 5 15 := ⟨49, _, by decide +kernel, rfl, by decide, rfl, Or.inl wd_796⟩
theorem i_M_sync_176 : decode m_M_sync.2.1 176 = .ok (.aload_n 0, 1) := by decide +kernel
theorem i_M_sync_177 : qGet m_M_sync 177 5 20 := ⟨228, _, by decide +kernel, rfl, by decide, rfl, Or.inl wd_801⟩
theorem i_M_sync_180 : decode m_M_sync.2.1 180 = .ok (.dup2, 1) := by decide +kernel
theorem i_M_sync_181 : decode m_M_sync.2.1 181 = .ok (.iaload, 1) := by decide +kernel
theorem i_M_sync_182 : decode m_M_sync.2.1 182 = .ok (.iconst 1, 1) := by decide +kernel
theorem i_M_sync_183 : decode m_M_sync.2.1 183 = .ok (.iadd, 1) := by decide +kernel
theorem i_M_sync_184 : decode m_M_sync.2.1 184 = .ok (.iastore, 1) := by decide +kernel
theorem i_M_sync_185 : decode m_M_sync.2.1 185 = .ok (.iinc 2 1, 3) := by decide +kernel
theorem i_M_sync_188 : decode m_M_sync.2.1 188 = .ok (.goto (-91), 3) := by decide +kernel
theorem i_M_sync_191 : decode m_M_sync.2.1 191 = .ok (.aload_n 0, 1) := by decide +kernel
theorem i_M_sync_192 : decode m_M_sync.2.1 192 = .ok (.dup, 1) := by decide +kernel
theorem i_M_sync_193 : qGet m_M_sync 193 5 20 := ⟨228, _, by decide +kernel, rfl, by decide, rfl, Or.inl wd_801⟩
theorem i_M_sync_196 : decode m_M_sync.2.1 196 = .ok (.iconst 1, 1) := by decide +kernel
theorem i_M_sync_197 : decode m_M_sync.2.1 197 = .ok (.iadd, 1) := by decide +kernel
theorem i_M_sync_198 : qPut m_M_sync 198 5 20 := ⟨228, _, by decide +kernel, rfl, by decide, rfl, Or.inl rfl, Or.inl wd_801⟩
theorem i_M_sync_201 : decode m_M_sync.2.1 201 = .ok (.iinc 4 1, 3) := by decide +kernel
theorem i_M_sync_204 : decode m_M_sync.2.1 204 = .ok (.goto (-147), 3) := by decide +kernel
theorem i_M_sync_207 : decode m_M_sync.2.1 207 = .ok (.aload_n 0, 1) := by decide +kernel
theorem i_M_sync_208 : decode m_M_sync.2.1 208 = .ok (.iconst 0, 1) := by decide +kernel
theorem i_M_sync_209 : qPut m_M_sync 209 5 21 := ⟨180, _, by decide +kernel, rfl, by decide, rfl, Or.inl rfl, Or.inl wd_802⟩
theorem i_M_sync_212 : decode m_M_sync.2.1 212 = .ok (.iload_n 1, 1) := by decide +kernel
theorem i_M_sync_213 : decode m_M_sync.2.1 213 = .ok (.ireturn, 1) := by decide +kernel
theorem i_M_dirtyPages_0 : decode m_M_dirtyPages.2.1 0 = .ok (.iconst 0, 1) := by decide +kernel
theorem i_M_dirtyPages_1 : decode m_M_dirtyPages.2.1 1 = .ok (.istore_n 1, 1) := by decide +kernel
theorem i_M_dirtyPages_2 : decode m_M_dirtyPages.2.1 2 = .ok (.iconst 0, 1) := by decide +kernel
theorem i_M_dirtyPages_3 : decode m_M_dirtyPages.2.1 3 = .ok (.istore_n 2, 1) := by decide +kernel
theorem i_M_dirtyPages_4 : decode m_M_dirtyPages.2.1 4 = .ok (.iload_n 2, 1) := by decide +kernel
theorem i_M_dirtyPages_5 : decode m_M_dirtyPages.2.1 5 = .ok (.aload_n 0, 1) := by decide +kernel
theorem i_M_dirtyPages_6 : qGet m_M_dirtyPages 6 5 10 := ⟨39, _, by decide +kernel, rfl, by decide, rfl, Or.inl wd_791⟩
theorem i_M_dirtyPages_9 : decode m_M_dirtyPages.2.1 9 = .ok (.if_icmp .ge 26, 3) := by decide +kernel
theorem i_M_dirtyPages_12 : decode m_M_dirtyPages.2.1 12 = .ok (.iload_n 1, 1) := by decide +kernel
theorem i_M_dirtyPages_13 : decode m_M_dirtyPages.2.1 13 = .ok (.aload_n 0, 1) := by decide +kernel
theorem i_M_dirtyPages_14 : qGet m_M_dirtyPages 14 5 5 := ⟨22, _, by decide +kernel, rfl, by decide, rfl, Or.inl wd_786⟩
theorem i_M_dirtyPages_17 : decode m_M_dirtyPages.2.1 17 = .ok (.iload_n 2, 1) := by decide +kernel
theorem i_M_dirtyPages_18 : decode m_M_dirtyPages.2.1 18 = .ok (.baload, 1) := by decide +kernel
theorem i_M_dirtyPages_19 : decode m_M_dirtyPages.2.1 19 = .ok (.ifCond .eq 7, 3) := by decide +kernel
theorem i_M_dirtyPages_22 : decode m_M_dirtyPages.2.1 22 = .ok (.iconst 1, 1) := by decide +kernel
theorem i_M_dirtyPages_23 : decode m_M_dirtyPages.2.1 23 = .ok (.goto 4, 3) := by decide +kernel
theorem i_M_dirtyPages_26 : decode m_M_dirtyPages.2.1 26 = .ok (.iconst 0, 1) := by decide +kernel
theorem i_M_dirtyPages_27 : decode m_M_dirtyPages.2.1 27 = .ok (.iadd, 1) := by decide +kernel
theorem i_M_dirtyPages_28 : decode m_M_dirtyPages.2.1 28 = .ok (.istore_n 1, 1) := by decide +kernel
theorem i_M_dirtyPages_29 : decode m_M_dirtyPages.2.1 29 = .ok (.iinc 2 1, 3) := by decide +kernel
theorem i_M_dirtyPages_32 : decode m_M_dirtyPages.2.1 32 = .ok (.goto (-28), 3) := by decide +kernel
theorem i_M_dirtyPages_35 : decode m_M_dirtyPages.2.1 35 = .ok (.iload_n 1, 1) := by decide +kernel
theorem i_M_dirtyPages_36 : decode m_M_dirtyPages.2.1 36 = .ok (.ireturn, 1) := by decide +kernel
theorem i_M_checkpoint_0 : decode m_M_checkpoint.2.1 0 = .ok (.aload_n 0, 1) := by decide +kernel
theorem i_M_checkpoint_1 : qInv m_M_checkpoint 1 m_M_isDown 5 0 := ⟨195, _, by decide +kernel, rfl, rfl, wd_990, wd_992, ws_35, by decide +kernel⟩
theorem i_M_checkpoint_4 : decode m_M_checkpoint.2.1 4 = .ok (.ifCond .eq 5, 3) := by decide +kernel
theorem i_M_checkpoint_7 : decode m_M_checkpoint.2.1 7 = .ok (.iconst 0, 1) := by decide +kernel
theorem i_M_checkpoint_8 : decode m_M_checkpoint.2.1 8 = .ok (.ireturn, 1) := by decide +kernel
theorem i_M_checkpoint_9 : decode m_M_checkpoint.2.1 9 = .ok (.aload_n 0, 1) := by decide +kernel
theorem i_M_checkpoint_10 : qInv m_M_checkpoint 10 m_M_dirtyPages 5 0 := ⟨234, _, by decide +kernel, rfl, rfl, wd_1086, wd_1088, ws_44, by decide +kernel⟩
theorem i_M_checkpoint_13 : decode m_M_checkpoint.2.1 13 = .ok (.iconst 1, 1) := by decide +kernel
theorem i_M_checkpoint_14 : decode m_M_checkpoint.2.1 14 = .ok (.iadd, 1) := by decide +kernel
theorem i_M_checkpoint_15 : decode m_M_checkpoint.2.1 15 = .ok (.istore_n 1, 1) := by decide +kernel
theorem i_M_checkpoint_16 : decode m_M_checkpoint.2.1 16 = .ok (.iconst 0, 1) := by decide +kernel
theorem i_M_checkpoint_17 : decode m_M_checkpoint.2.1 17 = .ok (.istore_n 2, 1) := by decide +kernel
theorem i_M_checkpoint_18 : decode m_M_checkpoint.2.1 18 = .ok (.iload_n 2, 1) := by decide +kernel
theorem i_M_checkpoint_19 : decode m_M_checkpoint.2.1 19 = .ok (.iload_n 1, 1) := by decide +kernel
theorem i_M_checkpoint_20 : decode m_M_checkpoint.2.1 20 = .ok (.if_icmp .ge 23, 3) := by decide +kernel
theorem i_M_checkpoint_23 : decode m_M_checkpoint.2.1 23 = .ok (.aload_n 0, 1) := by decide +kernel
theorem i_M_checkpoint_24 : qInv m_M_checkpoint 24 m_M_writes 5 0 := ⟨231, _, by decide +kernel, rfl, rfl, wd_1074, wd_1076, ws_42, by decide +kernel⟩
theorem i_M_checkpoint_27 : decode m_M_checkpoint.2.1 27 = .ok (.ifCond .ne 10, 3) := by decide +kernel
theorem i_M_checkpoint_30 : decode m_M_checkpoint.2.1 30 = .ok (.aload_n 0, 1) := by decide +kernel
theorem i_M_checkpoint_31 : decode m_M_checkpoint.2.1 31 = .ok (.iconst 1, 1) := by decide +kernel
theorem i_M_checkpoint_32 : qPut m_M_checkpoint 32 5 0 := ⟨113, _, by decide +kernel, rfl, by decide, rfl, Or.inl rfl, Or.inl wd_781⟩
theorem i_M_checkpoint_35 : decode m_M_checkpoint.2.1 35 = .ok (.iconst 0, 1) := by decide +kernel
theorem i_M_checkpoint_36 : decode m_M_checkpoint.2.1 36 = .ok (.ireturn, 1) := by decide +kernel
theorem i_M_checkpoint_37 : decode m_M_checkpoint.2.1 37 = .ok (.iinc 2 1, 3) := by decide +kernel
theorem i_M_checkpoint_40 : decode m_M_checkpoint.2.1 40 = .ok (.goto (-22), 3) := by decide +kernel
theorem i_M_checkpoint_43 : decode m_M_checkpoint.2.1 43 = .ok (.aload_n 0, 1) := by decide +kernel
theorem i_M_checkpoint_44 : decode m_M_checkpoint.2.1 44 = .ok (.sipush 256, 3) := by decide +kernel
theorem i_M_checkpoint_47 : decode m_M_checkpoint.2.1 47 = .ok (.iconst 0, 1) := by decide +kernel
theorem i_M_checkpoint_48 : decode m_M_checkpoint.2.1 48 = .ok (.aload_n 0, 1) := by decide +kernel
theorem i_M_checkpoint_49 : qGet m_M_checkpoint 49 5 10 := ⟨39, _, by decide +kernel, rfl, by decide, rfl, Or.inl wd_791⟩
theorem i_M_checkpoint_52 : qInv m_M_checkpoint 52 m_M_copyPages 5 3 := ⟨109, _, by decide +kernel, rfl, rfl, wd_777, wd_779, ws_19, by decide +kernel⟩
theorem i_M_checkpoint_55 : decode m_M_checkpoint.2.1 55 = .ok (.aload_n 0, 1) := by decide +kernel
theorem i_M_checkpoint_56 : decode m_M_checkpoint.2.1 56 = .ok (.aload_n 0, 1) := by decide +kernel
theorem i_M_checkpoint_57 : qGet m_M_checkpoint 57 5 10 := ⟨39, _, by decide +kernel, rfl, by decide, rfl, Or.inl wd_791⟩
theorem i_M_checkpoint_60 : qPut m_M_checkpoint 60 5 11 := ⟨43, _, by decide +kernel, rfl, by decide, rfl, Or.inl rfl, Or.inl wd_792⟩
theorem i_M_checkpoint_63 : decode m_M_checkpoint.2.1 63 = .ok (.aload_n 0, 1) := by decide +kernel
theorem i_M_checkpoint_64 : decode m_M_checkpoint.2.1 64 = .ok (.aload_n 0, 1) := by decide +kernel
theorem i_M_checkpoint_65 : qGet m_M_checkpoint 65 5 12 := ⟨145, _, by decide +kernel, rfl, by decide, rfl, Or.inl wd_793⟩
theorem i_M_checkpoint_68 : qPut m_M_checkpoint 68 5 13 := ⟨238, _, by decide +kernel, rfl, by decide, rfl, Or.inl rfl, Or.inl wd_794⟩
theorem i_M_checkpoint_71 : decode m_M_checkpoint.2.1 71 = .ok (.iconst 0, 1) := by decide +kernel
theorem i_M_checkpoint_72 : decode m_M_checkpoint.2.1 72 = .ok (.istore_n 2, 1) := by decide +kernel
theorem i_M_checkpoint_73 : decode m_M_checkpoint.2.1 73 = .ok (.iload_n 2, 1) := by decide +kernel
theorem i_M_checkpoint_74 : decode m_M_checkpoint.2.1 74 = .ok (.aload_n 0, 1) := by decide +kernel
theorem i_M_checkpoint_75 : qGet m_M_checkpoint 75 5 10 := ⟨39, _, by decide +kernel, rfl, by decide, rfl, Or.inl wd_791⟩
theorem i_M_checkpoint_78 : decode m_M_checkpoint.2.1 78 = .ok (.if_icmp .ge 16, 3) := by decide +kernel
theorem i_M_checkpoint_81 : decode m_M_checkpoint.2.1 81 = .ok (.aload_n 0, 1) := by decide +kernel
theorem i_M_checkpoint_82 : qGet m_M_checkpoint 82 5 5 := ⟨22, _, by decide +kernel, rfl, by decide, rfl, Or.inl wd_786⟩
theorem i_M_checkpoint_85 : decode m_M_checkpoint.2.1 85 = .ok (.iload_n 2, 1) := by decide +kernel
theorem i_M_checkpoint_86 : decode m_M_checkpoint.2.1 86 = .ok (.iconst 0, 1) := by decide +kernel
theorem i_M_checkpoint_87 : decode m_M_checkpoint.2.1 87 = .ok (.bastore, 1) := by decide +kernel
theorem i_M_checkpoint_88 : decode m_M_checkpoint.2.1 88 = .ok (.iinc 2 1, 3) := by decide +kernel
theorem i_M_checkpoint_91 : decode m_M_checkpoint.2.1 91 = .ok (.goto (-18), 3) := by decide +kernel
theorem i_M_checkpoint_94 : decode m_M_checkpoint.2.1 94 = .ok (.aload_n 0, 1) := by decide +kernel
theorem i_M_checkpoint_95 : decode m_M_checkpoint.2.1 95 = .ok (.iconst 0, 1) := by decide +kernel
theorem i_M_checkpoint_96 : qPut m_M_checkpoint 96 5 20 := ⟨228, _, by decide +kernel, rfl, by decide, rfl, Or.inl rfl, Or.inl wd_801⟩
theorem i_M_checkpoint_99 : decode m_M_checkpoint.2.1 99 = .ok (.aload_n 0, 1) := by decide +kernel
theorem i_M_checkpoint_100 : decode m_M_checkpoint.2.1 100 = .ok (.iconst 0, 1) := by decide +kernel
theorem i_M_checkpoint_101 : qPut m_M_checkpoint 101 5 21 := ⟨180, _, by decide +kernel, rfl, by decide, rfl, Or.inl rfl, Or.inl wd_802⟩
theorem i_M_checkpoint_104 : decode m_M_checkpoint.2.1 104 = .ok (.iload_n 1, 1) := by decide +kernel
theorem i_M_checkpoint_105 : decode m_M_checkpoint.2.1 105 = .ok (.ireturn, 1) := by decide +kernel
theorem i_M_cut_0 : decode m_M_cut.2.1 0 = .ok (.aload_n 0, 1) := by decide +kernel
theorem i_M_cut_1 : decode m_M_cut.2.1 1 = .ok (.aload_n 0, 1) := by decide +kernel
theorem i_M_cut_2 : qGet m_M_cut 2 5 25 := ⟨116, _, by decide +kernel, rfl, by decide, rfl, Or.inl wd_806⟩
theorem i_M_cut_5 : decode m_M_cut.2.1 5 = .ok (.iload_n 1, 1) := by decide +kernel
theorem i_M_cut_6 : decode m_M_cut.2.1 6 = .ok (.iconst (-1), 1) := by decide +kernel
theorem i_M_cut_7 : decode m_M_cut.2.1 7 = .ok (.if_icmp .ge 7, 3) := by decide +kernel
theorem i_M_cut_10 : decode m_M_cut.2.1 10 = .ok (.iconst 1, 1) := by decide +kernel
theorem i_M_cut_11 : decode m_M_cut.2.1 11 = .ok (.goto 4, 3) := by decide +kernel
theorem i_M_cut_14 : decode m_M_cut.2.1 14 = .ok (.iconst 0, 1) := by decide +kernel
theorem i_M_cut_15 : decode m_M_cut.2.1 15 = .ok (.iconst 0, 1) := by decide +kernel
theorem i_M_cut_16 : decode m_M_cut.2.1 16 = .ok (.iconst 0, 1) := by decide +kernel
theorem i_M_cut_17 : qInv m_M_cut 17 m_M_fails 5 4 := ⟨120, _, by decide +kernel, rfl, rfl, wd_926, wd_928, ws_21, by decide +kernel⟩
theorem i_M_cut_20 : decode m_M_cut.2.1 20 = .ok (.ifCond .ne 8, 3) := by decide +kernel
theorem i_M_cut_23 : decode m_M_cut.2.1 23 = .ok (.aload_n 0, 1) := by decide +kernel
theorem i_M_cut_24 : decode m_M_cut.2.1 24 = .ok (.iload_n 1, 1) := by decide +kernel
theorem i_M_cut_25 : qPut m_M_cut 25 5 26 := ⟨73, _, by decide +kernel, rfl, by decide, rfl, Or.inl rfl, Or.inl wd_807⟩
theorem i_M_cut_28 : decode m_M_cut.2.1 28 = .ok (.return_, 1) := by decide +kernel
theorem i_M_down_0 : decode m_M_down.2.1 0 = .ok (.aload_n 0, 1) := by decide +kernel
theorem i_M_down_1 : qInv m_M_down 1 m_M_isDown 5 0 := ⟨195, _, by decide +kernel, rfl, rfl, wd_990, wd_992, ws_35, by decide +kernel⟩
theorem i_M_down_4 : decode m_M_down.2.1 4 = .ok (.ifCond .ne 7, 3) := by decide +kernel
theorem i_M_down_7 : decode m_M_down.2.1 7 = .ok (.aload_n 0, 1) := by decide +kernel
theorem i_M_down_8 : qInv m_M_down 8 m_M_goDown 5 0 := ⟨222, _, by decide +kernel, rfl, rfl, wd_1078, wd_1080, ws_43, by decide +kernel⟩
theorem i_M_down_11 : decode m_M_down.2.1 11 = .ok (.return_, 1) := by decide +kernel
theorem i_M_spoil_0 : decode m_M_spoil.2.1 0 = .ok (.aload_n 0, 1) := by decide +kernel
theorem i_M_spoil_1 : decode m_M_spoil.2.1 1 = .ok (.iload_n 1, 1) := by decide +kernel
theorem i_M_spoil_2 : decode m_M_spoil.2.1 2 = .ok (.ifCond .lt 11, 3) := by decide +kernel
theorem i_M_spoil_5 : decode m_M_spoil.2.1 5 = .ok (.iload_n 1, 1) := by decide +kernel
theorem i_M_spoil_6 : decode m_M_spoil.2.1 6 = .ok (.aload_n 0, 1) := by decide +kernel
theorem i_M_spoil_7 : qGet m_M_spoil 7 5 20 := ⟨228, _, by decide +kernel, rfl, by decide, rfl, Or.inl wd_801⟩
theorem i_M_spoil_10 : decode m_M_spoil.2.1 10 = .ok (.if_icmp .lt 7, 3) := by decide +kernel
theorem i_M_spoil_13 : decode m_M_spoil.2.1 13 = .ok (.iconst 1, 1) := by decide +kernel
theorem i_M_spoil_14 : decode m_M_spoil.2.1 14 = .ok (.goto 4, 3) := by decide +kernel
theorem i_M_spoil_17 : decode m_M_spoil.2.1 17 = .ok (.iconst 0, 1) := by decide +kernel
theorem i_M_spoil_18 : decode m_M_spoil.2.1 18 = .ok (.iconst 0, 1) := by decide +kernel
theorem i_M_spoil_19 : decode m_M_spoil.2.1 19 = .ok (.iconst 0, 1) := by decide +kernel
theorem i_M_spoil_20 : decode m_M_spoil.2.1 20 = .ok (.iconst 0, 1) := by decide +kernel
theorem i_M_spoil_21 : qInv m_M_spoil 21 m_M_fails 5 4 := ⟨120, _, by decide +kernel, rfl, rfl, wd_926, wd_928, ws_21, by decide +kernel⟩
theorem i_M_spoil_24 : decode m_M_spoil.2.1 24 = .ok (.ifCond .ne 10, 3) := by decide +kernel
theorem i_M_spoil_27 : decode m_M_spoil.2.1 27 = .ok (.aload_n 0, 1) := by decide +kernel
theorem i_M_spoil_28 : qGet m_M_spoil 28 5 16 := ⟨52, _, by decide +kernel, rfl, by decide, rfl, Or.inl wd_797⟩
theorem i_M_spoil_31 : decode m_M_spoil.2.1 31 = .ok (.iload_n 1, 1) := by decide +kernel
theorem i_M_spoil_32 : decode m_M_spoil.2.1 32 = .ok (.iconst 1, 1) := by decide +kernel
theorem i_M_spoil_33 : decode m_M_spoil.2.1 33 = .ok (.bastore, 1) := by decide +kernel
theorem i_M_spoil_34 : decode m_M_spoil.2.1 34 = .ok (.return_, 1) := by decide +kernel
theorem i_M_start_0 : decode m_M_start.2.1 0 = .ok (.aload_n 0, 1) := by decide +kernel
theorem i_M_start_1 : decode m_M_start.2.1 1 = .ok (.aload_n 0, 1) := by decide +kernel
theorem i_M_start_2 : qGet m_M_start 2 5 25 := ⟨116, _, by decide +kernel, rfl, by decide, rfl, Or.inl wd_806⟩
theorem i_M_start_5 : decode m_M_start.2.1 5 = .ok (.ifCond .ne 7, 3) := by decide +kernel
theorem i_M_start_8 : decode m_M_start.2.1 8 = .ok (.iconst 1, 1) := by decide +kernel
theorem i_M_start_9 : decode m_M_start.2.1 9 = .ok (.goto 4, 3) := by decide +kernel
theorem i_M_start_12 : decode m_M_start.2.1 12 = .ok (.iconst 0, 1) := by decide +kernel
theorem i_M_start_13 : decode m_M_start.2.1 13 = .ok (.iconst 0, 1) := by decide +kernel
theorem i_M_start_14 : decode m_M_start.2.1 14 = .ok (.iconst 0, 1) := by decide +kernel
theorem i_M_start_15 : decode m_M_start.2.1 15 = .ok (.iconst 0, 1) := by decide +kernel
theorem i_M_start_16 : qInv m_M_start 16 m_M_fails 5 4 := ⟨120, _, by decide +kernel, rfl, rfl, wd_926, wd_928, ws_21, by decide +kernel⟩
theorem i_M_start_19 : decode m_M_start.2.1 19 = .ok (.ifCond .eq 5, 3) := by decide +kernel
theorem i_M_start_22 : decode m_M_start.2.1 22 = .ok (.iconst 0, 1) := by decide +kernel
theorem i_M_start_23 : decode m_M_start.2.1 23 = .ok (.ireturn, 1) := by decide +kernel
theorem i_M_start_24 : decode m_M_start.2.1 24 = .ok (.aload_n 0, 1) := by decide +kernel
theorem i_M_start_25 : decode m_M_start.2.1 25 = .ok (.iconst 0, 1) := by decide +kernel
theorem i_M_start_26 : qPut m_M_start 26 5 25 := ⟨116, _, by decide +kernel, rfl, by decide, rfl, Or.inl rfl, Or.inl wd_806⟩
theorem i_M_start_29 : decode m_M_start.2.1 29 = .ok (.aload_n 0, 1) := by decide +kernel
theorem i_M_start_30 : decode m_M_start.2.1 30 = .ok (.iconst 0, 1) := by decide +kernel
theorem i_M_start_31 : decode m_M_start.2.1 31 = .ok (.sipush 256, 3) := by decide +kernel
theorem i_M_start_34 : decode m_M_start.2.1 34 = .ok (.aload_n 0, 1) := by decide +kernel
theorem i_M_start_35 : qGet m_M_start 35 5 11 := ⟨43, _, by decide +kernel, rfl, by decide, rfl, Or.inl wd_792⟩
theorem i_M_start_38 : qInv m_M_start 38 m_M_copyPages 5 3 := ⟨109, _, by decide +kernel, rfl, rfl, wd_777, wd_779, ws_19, by decide +kernel⟩
theorem i_M_start_41 : decode m_M_start.2.1 41 = .ok (.aload_n 0, 1) := by decide +kernel
theorem i_M_start_42 : decode m_M_start.2.1 42 = .ok (.aload_n 0, 1) := by decide +kernel
theorem i_M_start_43 : qGet m_M_start 43 5 11 := ⟨43, _, by decide +kernel, rfl, by decide, rfl, Or.inl wd_792⟩
theorem i_M_start_46 : qPut m_M_start 46 5 10 := ⟨39, _, by decide +kernel, rfl, by decide, rfl, Or.inl rfl, Or.inl wd_791⟩
theorem i_M_start_49 : decode m_M_start.2.1 49 = .ok (.aload_n 0, 1) := by decide +kernel
theorem i_M_start_50 : decode m_M_start.2.1 50 = .ok (.aload_n 0, 1) := by decide +kernel
theorem i_M_start_51 : qGet m_M_start 51 5 13 := ⟨238, _, by decide +kernel, rfl, by decide, rfl, Or.inl wd_794⟩
theorem i_M_start_54 : qPut m_M_start 54 5 12 := ⟨145, _, by decide +kernel, rfl, by decide, rfl, Or.inl rfl, Or.inl wd_793⟩
theorem i_M_start_57 : decode m_M_start.2.1 57 = .ok (.iconst 0, 1) := by decide +kernel
theorem i_M_start_58 : decode m_M_start.2.1 58 = .ok (.istore_n 1, 1) := by decide +kernel
theorem i_M_start_59 : decode m_M_start.2.1 59 = .ok (.iload_n 1, 1) := by decide +kernel
theorem i_M_start_60 : decode m_M_start.2.1 60 = .ok (.sipush 256, 3) := by decide +kernel
theorem i_M_start_63 : decode m_M_start.2.1 63 = .ok (.if_icmp .ge 16, 3) := by decide +kernel
theorem i_M_start_66 : decode m_M_start.2.1 66 = .ok (.aload_n 0, 1) := by decide +kernel
theorem i_M_start_67 : qGet m_M_start 67 5 5 := ⟨22, _, by decide +kernel, rfl, by decide, rfl, Or.inl wd_786⟩
theorem i_M_start_70 : decode m_M_start.2.1 70 = .ok (.iload_n 1, 1) := by decide +kernel
theorem i_M_start_71 : decode m_M_start.2.1 71 = .ok (.iconst 0, 1) := by decide +kernel
theorem i_M_start_72 : decode m_M_start.2.1 72 = .ok (.bastore, 1) := by decide +kernel
theorem i_M_start_73 : decode m_M_start.2.1 73 = .ok (.iinc 1 1, 3) := by decide +kernel
theorem i_M_start_76 : decode m_M_start.2.1 76 = .ok (.goto (-17), 3) := by decide +kernel
theorem i_M_start_79 : decode m_M_start.2.1 79 = .ok (.iconst 0, 1) := by decide +kernel
theorem i_M_start_80 : decode m_M_start.2.1 80 = .ok (.istore_n 1, 1) := by decide +kernel
theorem i_M_start_81 : decode m_M_start.2.1 81 = .ok (.iload_n 1, 1) := by decide +kernel
theorem i_M_start_82 : decode m_M_start.2.1 82 = .ok (.aload_n 0, 1) := by decide +kernel
theorem i_M_start_83 : qGet m_M_start 83 5 20 := ⟨228, _, by decide +kernel, rfl, by decide, rfl, Or.inl wd_801⟩
theorem i_M_start_86 : decode m_M_start.2.1 86 = .ok (.if_icmp .ge 64, 3) := by decide +kernel
theorem i_M_start_89 : decode m_M_start.2.1 89 = .ok (.aload_n 0, 1) := by decide +kernel
theorem i_M_start_90 : qGet m_M_start 90 5 16 := ⟨52, _, by decide +kernel, rfl, by decide, rfl, Or.inl wd_797⟩
theorem i_M_start_93 : decode m_M_start.2.1 93 = .ok (.iload_n 1, 1) := by decide +kernel
theorem i_M_start_94 : decode m_M_start.2.1 94 = .ok (.baload, 1) := by decide +kernel
theorem i_M_start_95 : decode m_M_start.2.1 95 = .ok (.ifCond .ne 55, 3) := by decide +kernel
theorem i_M_start_98 : decode m_M_start.2.1 98 = .ok (.iconst 4, 1) := by decide +kernel
theorem i_M_start_99 : decode m_M_start.2.1 99 = .ok (.iload_n 1, 1) := by decide +kernel
theorem i_M_start_100 : decode m_M_start.2.1 100 = .ok (.imul, 1) := by decide +kernel
theorem i_M_start_101 : decode m_M_start.2.1 101 = .ok (.istore_n 2, 1) := by decide +kernel
theorem i_M_start_102 : decode m_M_start.2.1 102 = .ok (.iload_n 2, 1) := by decide +kernel
theorem i_M_start_103 : decode m_M_start.2.1 103 = .ok (.iconst 4, 1) := by decide +kernel
theorem i_M_start_104 : decode m_M_start.2.1 104 = .ok (.iload_n 1, 1) := by decide +kernel
theorem i_M_start_105 : decode m_M_start.2.1 105 = .ok (.imul, 1) := by decide +kernel
theorem i_M_start_106 : decode m_M_start.2.1 106 = .ok (.aload_n 0, 1) := by decide +kernel
theorem i_M_start_107 : qGet m_M_start 107 5 15 := ⟨49, _, by decide +kernel, rfl, by decide, rfl, Or.inl wd_796⟩
theorem i_M_start_110 : decode m_M_start.2.1 110 = .ok (.iload_n 1, 1) := by decide +kernel
theorem i_M_start_111 : decode m_M_start.2.1 111 = .ok (.iaload, 1) := by decide +kernel
theorem i_M_start_112 : decode m_M_start.2.1 112 = .ok (.iadd, 1) := by decide +kernel
theorem i_M_start_113 : decode m_M_start.2.1 113 = .ok (.if_icmp .ge 31, 3) := by decide +kernel
theorem i_M_start_116 : decode m_M_start.2.1 116 = .ok (.aload_n 0, 1) := by decide +kernel
theorem i_M_start_117 : decode m_M_start.2.1 117 = .ok (.aload_n 0, 1) := by decide +kernel
theorem i_M_start_118 : qGet m_M_start 118 5 18 := ⟨58, _, by decide +kernel, rfl, by decide, rfl, Or.inl wd_799⟩
theorem i_M_start_121 : decode m_M_start.2.1 121 = .ok (.iload_n 2, 1) := by decide +kernel
theorem i_M_start_122 : decode m_M_start.2.1 122 = .ok (.iaload, 1) := by decide +kernel
theorem i_M_start_123 : decode m_M_start.2.1 123 = .ok (.aload_n 0, 1) := by decide +kernel
theorem i_M_start_124 : qGet m_M_start 124 5 17 := ⟨55, _, by decide +kernel, rfl, by decide, rfl, Or.inl wd_798⟩
theorem i_M_start_127 : decode m_M_start.2.1 127 = .ok (.iload_n 2, 1) := by decide +kernel
theorem i_M_start_128 : decode m_M_start.2.1 128 = .ok (.baload, 1) := by decide +kernel
theorem i_M_start_129 : decode m_M_start.2.1 129 = .ok (.aload_n 0, 1) := by decide +kernel
theorem i_M_start_130 : qGet m_M_start 130 5 19 := ⟨61, _, by decide +kernel, rfl, by decide, rfl, Or.inl wd_800⟩
theorem i_M_start_133 : decode m_M_start.2.1 133 = .ok (.iload_n 2, 1) := by decide +kernel
theorem i_M_start_134 : decode m_M_start.2.1 134 = .ok (.laload, 1) := by decide +kernel
theorem i_M_start_135 : qInv m_M_start 135 m_M_update 5 3 := ⟨187, _, by decide +kernel, rfl, rfl, wd_930, wd_932, ws_22, by decide +kernel⟩
theorem i_M_start_138 : decode m_M_start.2.1 138 = .ok (.iinc 2 1, 3) := by decide +kernel
theorem i_M_start_141 : decode m_M_start.2.1 141 = .ok (.goto (-39), 3) := by decide +kernel
theorem i_M_start_144 : decode m_M_start.2.1 144 = .ok (.iinc 1 1, 3) := by decide +kernel
theorem i_M_start_147 : decode m_M_start.2.1 147 = .ok (.goto (-66), 3) := by decide +kernel
theorem i_M_start_150 : decode m_M_start.2.1 150 = .ok (.aload_n 0, 1) := by decide +kernel
theorem i_M_start_151 : decode m_M_start.2.1 151 = .ok (.iload_n 1, 1) := by decide +kernel
theorem i_M_start_152 : qPut m_M_start 152 5 20 := ⟨228, _, by decide +kernel, rfl, by decide, rfl, Or.inl rfl, Or.inl wd_801⟩
theorem i_M_start_155 : decode m_M_start.2.1 155 = .ok (.aload_n 0, 1) := by decide +kernel
theorem i_M_start_156 : qGet m_M_start 156 5 12 := ⟨145, _, by decide +kernel, rfl, by decide, rfl, Or.inl wd_793⟩
theorem i_M_start_159 : decode m_M_start.2.1 159 = .ok (.ireturn, 1) := by decide +kernel
theorem i_M_disk_0 : decode m_M_disk.2.1 0 = .ok (.aload_n 0, 1) := by decide +kernel
theorem i_M_disk_1 : decode m_M_disk.2.1 1 = .ok (.iload_n 1, 1) := by decide +kernel
theorem i_M_disk_2 : decode m_M_disk.2.1 2 = .ok (.ifCond .lt 8, 3) := by decide +kernel
theorem i_M_disk_5 : decode m_M_disk.2.1 5 = .ok (.iload_n 1, 1) := by decide +kernel
theorem i_M_disk_6 : decode m_M_disk.2.1 6 = .ok (.iconst 4, 1) := by decide +kernel
theorem i_M_disk_7 : decode m_M_disk.2.1 7 = .ok (.if_icmp .le 7, 3) := by decide +kernel
theorem i_M_disk_10 : decode m_M_disk.2.1 10 = .ok (.iconst 1, 1) := by decide +kernel
theorem i_M_disk_11 : decode m_M_disk.2.1 11 = .ok (.goto 4, 3) := by decide +kernel
theorem i_M_disk_14 : decode m_M_disk.2.1 14 = .ok (.iconst 0, 1) := by decide +kernel
theorem i_M_disk_15 : decode m_M_disk.2.1 15 = .ok (.iconst 0, 1) := by decide +kernel
theorem i_M_disk_16 : decode m_M_disk.2.1 16 = .ok (.iconst 0, 1) := by decide +kernel
theorem i_M_disk_17 : decode m_M_disk.2.1 17 = .ok (.iconst 0, 1) := by decide +kernel
theorem i_M_disk_18 : qInv m_M_disk 18 m_M_fails 5 4 := ⟨120, _, by decide +kernel, rfl, rfl, wd_926, wd_928, ws_21, by decide +kernel⟩
theorem i_M_disk_21 : decode m_M_disk.2.1 21 = .ok (.ifCond .eq 5, 3) := by decide +kernel
theorem i_M_disk_24 : decode m_M_disk.2.1 24 = .ok (.iconst 0, 1) := by decide +kernel
theorem i_M_disk_25 : decode m_M_disk.2.1 25 = .ok (.ireturn, 1) := by decide +kernel
theorem i_M_disk_26 : decode m_M_disk.2.1 26 = .ok (.iload_n 1, 1) := by decide +kernel
theorem i_M_disk_27 : decode m_M_disk.2.1 27 = .ok (.ifCond .ne 10, 3) := by decide +kernel
theorem i_M_disk_30 : decode m_M_disk.2.1 30 = .ok (.aload_n 0, 1) := by decide +kernel
theorem i_M_disk_31 : qGet m_M_disk 31 5 20 := ⟨228, _, by decide +kernel, rfl, by decide, rfl, Or.inl wd_801⟩
theorem i_M_disk_34 : decode m_M_disk.2.1 34 = .ok (.goto 54, 3) := by decide +kernel
theorem i_M_disk_37 : decode m_M_disk.2.1 37 = .ok (.iload_n 1, 1) := by decide +kernel
theorem i_M_disk_38 : decode m_M_disk.2.1 38 = .ok (.iconst 1, 1) := by decide +kernel
theorem i_M_disk_39 : decode m_M_disk.2.1 39 = .ok (.if_icmp .ne 10, 3) := by decide +kernel
theorem i_M_disk_42 : decode m_M_disk.2.1 42 = .ok (.aload_n 0, 1) := by decide +kernel
theorem i_M_disk_43 : qGet m_M_disk 43 5 21 := ⟨180, _, by decide +kernel, rfl, by decide, rfl, Or.inl wd_802⟩
theorem i_M_disk_46 : decode m_M_disk.2.1 46 = .ok (.goto 42, 3) := by decide +kernel
theorem i_M_disk_49 : decode m_M_disk.2.1 49 = .ok (.iload_n 1, 1) := by decide +kernel
theorem i_M_disk_50 : decode m_M_disk.2.1 50 = .ok (.iconst 2, 1) := by decide +kernel
theorem i_M_disk_51 : decode m_M_disk.2.1 51 = .ok (.if_icmp .ne 10, 3) := by decide +kernel
theorem i_M_disk_54 : decode m_M_disk.2.1 54 = .ok (.aload_n 0, 1) := by decide +kernel
theorem i_M_disk_55 : qGet m_M_disk 55 5 13 := ⟨238, _, by decide +kernel, rfl, by decide, rfl, Or.inl wd_794⟩
theorem i_M_disk_58 : decode m_M_disk.2.1 58 = .ok (.goto 30, 3) := by decide +kernel
theorem i_M_disk_61 : decode m_M_disk.2.1 61 = .ok (.iload_n 1, 1) := by decide +kernel
theorem i_M_disk_62 : decode m_M_disk.2.1 62 = .ok (.iconst 3, 1) := by decide +kernel
theorem i_M_disk_63 : decode m_M_disk.2.1 63 = .ok (.if_icmp .ne 10, 3) := by decide +kernel
theorem i_M_disk_66 : decode m_M_disk.2.1 66 = .ok (.aload_n 0, 1) := by decide +kernel
theorem i_M_disk_67 : qGet m_M_disk 67 5 27 := ⟨225, _, by decide +kernel, rfl, by decide, rfl, Or.inl wd_808⟩
theorem i_M_disk_70 : decode m_M_disk.2.1 70 = .ok (.goto 18, 3) := by decide +kernel
theorem i_M_disk_73 : decode m_M_disk.2.1 73 = .ok (.aload_n 0, 1) := by decide +kernel
theorem i_M_disk_74 : qGet m_M_disk 74 5 25 := ⟨116, _, by decide +kernel, rfl, by decide, rfl, Or.inl wd_806⟩
theorem i_M_disk_77 : decode m_M_disk.2.1 77 = .ok (.ifCond .eq 7, 3) := by decide +kernel
theorem i_M_disk_80 : decode m_M_disk.2.1 80 = .ok (.iconst 0, 1) := by decide +kernel
theorem i_M_disk_81 : decode m_M_disk.2.1 81 = .ok (.goto 7, 3) := by decide +kernel
theorem i_M_disk_84 : decode m_M_disk.2.1 84 = .ok (.aload_n 0, 1) := by decide +kernel
theorem i_M_disk_85 : qInv m_M_disk 85 m_M_dirtyPages 5 0 := ⟨234, _, by decide +kernel, rfl, rfl, wd_1086, wd_1088, ws_44, by decide +kernel⟩
theorem i_M_disk_88 : decode m_M_disk.2.1 88 = .ok (.ireturn, 1) := by decide +kernel
