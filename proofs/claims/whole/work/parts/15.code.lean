theorem i_M_change_227 : decode m_M_change.2.1 227 = .ok (.iaload, 1) := by decide +kernel
theorem i_M_change_228 : decode m_M_change.2.1 228 = .ok (.iconst 1, 1) := by decide +kernel
theorem i_M_change_229 : decode m_M_change.2.1 229 = .ok (.iadd, 1) := by decide +kernel
theorem i_M_change_230 : decode m_M_change.2.1 230 = .ok (.iaload, 1) := by decide +kernel
theorem i_M_change_231 : decode m_M_change.2.1 231 = .ok (.istore 6, 2) := by decide +kernel
theorem i_M_change_233 : decode m_M_change.2.1 233 = .ok (.aload_n 0, 1) := by decide +kernel
theorem i_M_change_234 : decode m_M_change.2.1 234 = .ok (.iload 6, 2) := by decide +kernel
theorem i_M_change_236 : decode m_M_change.2.1 236 = .ok (.iload_n 2, 1) := by decide +kernel
theorem i_M_change_237 : decode m_M_change.2.1 237 = .ok (.iconst 1, 1) := by decide +kernel
theorem i_M_change_238 : decode m_M_change.2.1 238 = .ok (.isub, 1) := by decide +kernel
theorem i_M_change_239 : decode m_M_change.2.1 239 = .ok (.iload_n 1, 1) := by decide +kernel
theorem i_M_change_240 : qInv m_M_change 240 m_M_entryOf 5 3 := ⟨167, _, by decide +kernel, rfl, rfl, wd_962, wd_964, ws_30, by decide +kernel⟩
theorem i_M_change_243 : decode m_M_change.2.1 243 = .ok (.istore 4, 2) := by decide +kernel
theorem i_M_change_245 : decode m_M_change.2.1 245 = .ok (.aload_n 0, 1) := by decide +kernel
theorem i_M_change_246 : qGet m_M_change 246 5 33 := ⟨132, _, by decide +kernel, rfl, by decide, rfl, Or.inl wd_814⟩
theorem i_M_change_249 : decode m_M_change.2.1 249 = .ok (.iconst 5, 1) := by decide +kernel
theorem i_M_change_250 : decode m_M_change.2.1 250 = .ok (.if_icmp .ge 61, 3) := by decide +kernel
theorem i_M_change_253 : decode m_M_change.2.1 253 = .ok (.aload_n 0, 1) := by decide +kernel
theorem i_M_change_254 : decode m_M_change.2.1 254 = .ok (.iload 6, 2) := by decide +kernel
theorem i_M_change_256 : decode m_M_change.2.1 256 = .ok (.iload_n 2, 1) := by decide +kernel
theorem i_M_change_257 : decode m_M_change.2.1 257 = .ok (.iconst 1, 1) := by decide +kernel
theorem i_M_change_258 : decode m_M_change.2.1 258 = .ok (.isub, 1) := by decide +kernel
theorem i_M_change_259 : decode m_M_change.2.1 259 = .ok (.iload 4, 2) := by decide +kernel
theorem i_M_change_261 : qInv m_M_change 261 m_M_neighbour 5 3 := ⟨170, _, by decide +kernel, rfl, rfl, wd_966, wd_968, ws_31, by decide +kernel⟩
theorem i_M_change_264 : decode m_M_change.2.1 264 = .ok (.istore 5, 2) := by decide +kernel
theorem i_M_change_266 : decode m_M_change.2.1 266 = .ok (.aload_n 0, 1) := by decide +kernel
theorem i_M_change_267 : qGet m_M_change 267 5 9 := ⟨35, _, by decide +kernel, rfl, by decide, rfl, Or.inl wd_790⟩
theorem i_M_change_270 : decode m_M_change.2.1 270 = .ok (.iload 5, 2) := by decide +kernel
theorem i_M_change_272 : decode m_M_change.2.1 272 = .ok (.laload, 1) := by decide +kernel
theorem i_M_change_273 : decode m_M_change.2.1 273 = .ok (.l2i, 1) := by decide +kernel
theorem i_M_change_274 : decode m_M_change.2.1 274 = .ok (.istore 7, 2) := by decide +kernel
theorem i_M_change_276 : decode m_M_change.2.1 276 = .ok (.aload_n 0, 1) := by decide +kernel
theorem i_M_change_277 : qGet m_M_change 277 5 3 := ⟨16, _, by decide +kernel, rfl, by decide, rfl, Or.inl wd_784⟩
theorem i_M_change_280 : decode m_M_change.2.1 280 = .ok (.iload 7, 2) := by decide +kernel
theorem i_M_change_282 : decode m_M_change.2.1 282 = .ok (.iload_n 2, 1) := by decide +kernel
theorem i_M_change_283 : decode m_M_change.2.1 283 = .ok (.iastore, 1) := by decide +kernel
theorem i_M_change_284 : decode m_M_change.2.1 284 = .ok (.aload_n 0, 1) := by decide +kernel
theorem i_M_change_285 : qGet m_M_change 285 5 5 := ⟨22, _, by decide +kernel, rfl, by decide, rfl, Or.inl wd_786⟩
theorem i_M_change_288 : decode m_M_change.2.1 288 = .ok (.iload 7, 2) := by decide +kernel
theorem i_M_change_290 : decode m_M_change.2.1 290 = .ok (.iconst 1, 1) := by decide +kernel
theorem i_M_change_291 : decode m_M_change.2.1 291 = .ok (.bastore, 1) := by decide +kernel
theorem i_M_change_292 : decode m_M_change.2.1 292 = .ok (.aload_n 0, 1) := by decide +kernel
theorem i_M_change_293 : decode m_M_change.2.1 293 = .ok (.iconst (-1), 1) := by decide +kernel
theorem i_M_change_294 : qPut m_M_change 294 5 28 := ⟨135, _, by decide +kernel, rfl, by decide, rfl, Or.inl rfl, Or.inl wd_809⟩
theorem i_M_change_297 : decode m_M_change.2.1 297 = .ok (.aload_n 0, 1) := by decide +kernel
theorem i_M_change_298 : decode m_M_change.2.1 298 = .ok (.iconst (-1), 1) := by decide +kernel
theorem i_M_change_299 : qPut m_M_change 299 5 29 := ⟨138, _, by decide +kernel, rfl, by decide, rfl, Or.inl rfl, Or.inl wd_810⟩
theorem i_M_change_302 : decode m_M_change.2.1 302 = .ok (.aload_n 0, 1) := by decide +kernel
theorem i_M_change_303 : decode m_M_change.2.1 303 = .ok (.iload 7, 2) := by decide +kernel
theorem i_M_change_305 : decode m_M_change.2.1 305 = .ok (.iload_n 2, 1) := by decide +kernel
theorem i_M_change_306 : decode m_M_change.2.1 306 = .ok (.iconst 1, 1) := by decide +kernel
theorem i_M_change_307 : decode m_M_change.2.1 307 = .ok (.isub, 1) := by decide +kernel
theorem i_M_change_308 : qInv m_M_change 308 m_M_listAlive 5 2 := ⟨159, _, by decide +kernel, rfl, rfl, wd_950, wd_952, ws_27, by decide +kernel⟩
theorem i_M_change_311 : decode m_M_change.2.1 311 = .ok (.aload_n 0, 1) := by decide +kernel
theorem i_M_change_312 : decode m_M_change.2.1 312 = .ok (.iload_n 1, 1) := by decide +kernel
theorem i_M_change_313 : decode m_M_change.2.1 313 = .ok (.iload_n 2, 1) := by decide +kernel
theorem i_M_change_314 : decode m_M_change.2.1 314 = .ok (.iload_n 3, 1) := by decide +kernel
theorem i_M_change_315 : decode m_M_change.2.1 315 = .ok (.iload 4, 2) := by decide +kernel
theorem i_M_change_317 : decode m_M_change.2.1 317 = .ok (.iload 5, 2) := by decide +kernel
theorem i_M_change_319 : qInv m_M_change 319 m_M_remake 5 5 := ⟨173, _, by decide +kernel, rfl, rfl, wd_970, wd_972, ws_32, by decide +kernel⟩
theorem i_M_change_322 : decode m_M_change.2.1 322 = .ok (.iload_n 3, 1) := by decide +kernel
theorem i_M_change_323 : decode m_M_change.2.1 323 = .ok (.ifCond .ne 7, 3) := by decide +kernel
theorem i_M_change_326 : decode m_M_change.2.1 326 = .ok (.iconst 1, 1) := by decide +kernel
theorem i_M_change_327 : decode m_M_change.2.1 327 = .ok (.goto 4, 3) := by decide +kernel
theorem i_M_change_330 : decode m_M_change.2.1 330 = .ok (.iconst 0, 1) := by decide +kernel
theorem i_M_change_331 : decode m_M_change.2.1 331 = .ok (.ireturn, 1) := by decide +kernel
theorem i_M_entryOf_0 : decode m_M_entryOf.2.1 0 = .ok (.iconst (-1), 1) := by decide +kernel
theorem i_M_entryOf_1 : decode m_M_entryOf.2.1 1 = .ok (.istore 4, 2) := by decide +kernel
theorem i_M_entryOf_3 : decode m_M_entryOf.2.1 3 = .ok (.bipush 16, 2) := by decide +kernel
theorem i_M_entryOf_5 : decode m_M_entryOf.2.1 5 = .ok (.iload_n 1, 1) := by decide +kernel
theorem i_M_entryOf_6 : decode m_M_entryOf.2.1 6 = .ok (.imul, 1) := by decide +kernel
theorem i_M_entryOf_7 : decode m_M_entryOf.2.1 7 = .ok (.istore 5, 2) := by decide +kernel
theorem i_M_entryOf_9 : decode m_M_entryOf.2.1 9 = .ok (.iload 5, 2) := by decide +kernel
theorem i_M_entryOf_11 : decode m_M_entryOf.2.1 11 = .ok (.bipush 16, 2) := by decide +kernel
theorem i_M_entryOf_13 : decode m_M_entryOf.2.1 13 = .ok (.iload_n 1, 1) := by decide +kernel
theorem i_M_entryOf_14 : decode m_M_entryOf.2.1 14 = .ok (.imul, 1) := by decide +kernel
theorem i_M_entryOf_15 : decode m_M_entryOf.2.1 15 = .ok (.aload_n 0, 1) := by decide +kernel
theorem i_M_entryOf_16 : qGet m_M_entryOf 16 5 4 := ⟨19, _, by decide +kernel, rfl, by decide, rfl, Or.inl wd_785⟩
theorem i_M_entryOf_19 : decode m_M_entryOf.2.1 19 = .ok (.iload_n 1, 1) := by decide +kernel
theorem i_M_entryOf_20 : decode m_M_entryOf.2.1 20 = .ok (.iaload, 1) := by decide +kernel
theorem i_M_entryOf_21 : decode m_M_entryOf.2.1 21 = .ok (.iadd, 1) := by decide +kernel
theorem i_M_entryOf_22 : decode m_M_entryOf.2.1 22 = .ok (.if_icmp .ge 41, 3) := by decide +kernel
theorem i_M_entryOf_25 : decode m_M_entryOf.2.1 25 = .ok (.aload_n 0, 1) := by decide +kernel
theorem i_M_entryOf_26 : decode m_M_entryOf.2.1 26 = .ok (.iload 5, 2) := by decide +kernel
theorem i_M_entryOf_28 : decode m_M_entryOf.2.1 28 = .ok (.iload_n 2, 1) := by decide +kernel
theorem i_M_entryOf_29 : qInv m_M_entryOf 29 m_M_isAlive 5 2 := ⟨124, _, by decide +kernel, rfl, rfl, wd_938, wd_940, ws_24, by decide +kernel⟩
theorem i_M_entryOf_32 : decode m_M_entryOf.2.1 32 = .ok (.ifCond .eq 21, 3) := by decide +kernel
theorem i_M_entryOf_35 : decode m_M_entryOf.2.1 35 = .ok (.aload_n 0, 1) := by decide +kernel
theorem i_M_entryOf_36 : qGet m_M_entryOf 36 5 9 := ⟨35, _, by decide +kernel, rfl, by decide, rfl, Or.inl wd_790⟩
theorem i_M_entryOf_39 : decode m_M_entryOf.2.1 39 = .ok (.iload 5, 2) := by decide +kernel
theorem i_M_entryOf_41 : decode m_M_entryOf.2.1 41 = .ok (.laload, 1) := by decide +kernel
theorem i_M_entryOf_42 : decode m_M_entryOf.2.1 42 = .ok (.iload_n 3, 1) := by decide +kernel
theorem i_M_entryOf_43 : decode m_M_entryOf.2.1 43 = .ok (.i2l, 1) := by decide +kernel
theorem i_M_entryOf_44 : decode m_M_entryOf.2.1 44 = .ok (.lcmp, 1) := by decide +kernel
theorem i_M_entryOf_45 : decode m_M_entryOf.2.1 45 = .ok (.ifCond .ne 8, 3) := by decide +kernel
theorem i_M_entryOf_48 : decode m_M_entryOf.2.1 48 = .ok (.iload 5, 2) := by decide +kernel
theorem i_M_entryOf_50 : decode m_M_entryOf.2.1 50 = .ok (.goto 5, 3) := by decide +kernel
theorem i_M_entryOf_53 : decode m_M_entryOf.2.1 53 = .ok (.iload 4, 2) := by decide +kernel
theorem i_M_entryOf_55 : decode m_M_entryOf.2.1 55 = .ok (.istore 4, 2) := by decide +kernel
theorem i_M_entryOf_57 : decode m_M_entryOf.2.1 57 = .ok (.iinc 5 1, 3) := by decide +kernel
theorem i_M_entryOf_60 : decode m_M_entryOf.2.1 60 = .ok (.goto (-51), 3) := by decide +kernel
theorem i_M_entryOf_63 : decode m_M_entryOf.2.1 63 = .ok (.iload 4, 2) := by decide +kernel
theorem i_M_entryOf_65 : decode m_M_entryOf.2.1 65 = .ok (.ireturn, 1) := by decide +kernel
theorem i_M_neighbour_0 : decode m_M_neighbour.2.1 0 = .ok (.iconst (-1), 1) := by decide +kernel
theorem i_M_neighbour_1 : decode m_M_neighbour.2.1 1 = .ok (.istore 4, 2) := by decide +kernel
theorem i_M_neighbour_3 : decode m_M_neighbour.2.1 3 = .ok (.iconst (-1), 1) := by decide +kernel
theorem i_M_neighbour_4 : decode m_M_neighbour.2.1 4 = .ok (.istore 5, 2) := by decide +kernel
theorem i_M_neighbour_6 : decode m_M_neighbour.2.1 6 = .ok (.bipush 16, 2) := by decide +kernel
theorem i_M_neighbour_8 : decode m_M_neighbour.2.1 8 = .ok (.iload_n 1, 1) := by decide +kernel
theorem i_M_neighbour_9 : decode m_M_neighbour.2.1 9 = .ok (.imul, 1) := by decide +kernel
theorem i_M_neighbour_10 : decode m_M_neighbour.2.1 10 = .ok (.istore 6, 2) := by decide +kernel
theorem i_M_neighbour_12 : decode m_M_neighbour.2.1 12 = .ok (.iload 6, 2) := by decide +kernel
theorem i_M_neighbour_14 : decode m_M_neighbour.2.1 14 = .ok (.bipush 16, 2) := by decide +kernel
theorem i_M_neighbour_16 : decode m_M_neighbour.2.1 16 = .ok (.iload_n 1, 1) := by decide +kernel
theorem i_M_neighbour_17 : decode m_M_neighbour.2.1 17 = .ok (.imul, 1) := by decide +kernel
theorem i_M_neighbour_18 : decode m_M_neighbour.2.1 18 = .ok (.aload_n 0, 1) := by decide +kernel
theorem i_M_neighbour_19 : qGet m_M_neighbour 19 5 4 := ⟨19, _, by decide +kernel, rfl, by decide, rfl, Or.inl wd_785⟩
theorem i_M_neighbour_22 : decode m_M_neighbour.2.1 22 = .ok (.iload_n 1, 1) := by decide +kernel
theorem i_M_neighbour_23 : decode m_M_neighbour.2.1 23 = .ok (.iaload, 1) := by decide +kernel
theorem i_M_neighbour_24 : decode m_M_neighbour.2.1 24 = .ok (.iadd, 1) := by decide +kernel
theorem i_M_neighbour_25 : decode m_M_neighbour.2.1 25 = .ok (.if_icmp .ge 119, 3) := by decide +kernel
theorem i_M_neighbour_28 : decode m_M_neighbour.2.1 28 = .ok (.aload_n 0, 1) := by decide +kernel
theorem i_M_neighbour_29 : decode m_M_neighbour.2.1 29 = .ok (.iload 6, 2) := by decide +kernel
theorem i_M_neighbour_31 : decode m_M_neighbour.2.1 31 = .ok (.iload_n 2, 1) := by decide +kernel
theorem i_M_neighbour_32 : qInv m_M_neighbour 32 m_M_isAlive 5 2 := ⟨124, _, by decide +kernel, rfl, rfl, wd_938, wd_940, ws_24, by decide +kernel⟩
theorem i_M_neighbour_35 : decode m_M_neighbour.2.1 35 = .ok (.ifCond .eq 103, 3) := by decide +kernel
theorem i_M_neighbour_38 : decode m_M_neighbour.2.1 38 = .ok (.iload 6, 2) := by decide +kernel
theorem i_M_neighbour_40 : decode m_M_neighbour.2.1 40 = .ok (.iload_n 3, 1) := by decide +kernel
theorem i_M_neighbour_41 : decode m_M_neighbour.2.1 41 = .ok (.if_icmp .eq 97, 3) := by decide +kernel
theorem i_M_neighbour_44 : decode m_M_neighbour.2.1 44 = .ok (.aload_n 0, 1) := by decide +kernel
theorem i_M_neighbour_45 : qGet m_M_neighbour 45 5 6 := ⟨26, _, by decide +kernel, rfl, by decide, rfl, Or.inl wd_787⟩
theorem i_M_neighbour_48 : decode m_M_neighbour.2.1 48 = .ok (.iload 6, 2) := by decide +kernel
theorem i_M_neighbour_50 : decode m_M_neighbour.2.1 50 = .ok (.iaload, 1) := by decide +kernel
theorem i_M_neighbour_51 : decode m_M_neighbour.2.1 51 = .ok (.aload_n 0, 1) := by decide +kernel
theorem i_M_neighbour_52 : qGet m_M_neighbour 52 5 6 := ⟨26, _, by decide +kernel, rfl, by decide, rfl, Or.inl wd_787⟩
theorem i_M_neighbour_55 : decode m_M_neighbour.2.1 55 = .ok (.iload_n 3, 1) := by decide +kernel
theorem i_M_neighbour_56 : decode m_M_neighbour.2.1 56 = .ok (.iaload, 1) := by decide +kernel
theorem i_M_neighbour_57 : decode m_M_neighbour.2.1 57 = .ok (.if_icmp .le 30, 3) := by decide +kernel
theorem i_M_neighbour_60 : decode m_M_neighbour.2.1 60 = .ok (.iload 4, 2) := by decide +kernel
theorem i_M_neighbour_62 : decode m_M_neighbour.2.1 62 = .ok (.ifCond .lt 20, 3) := by decide +kernel
theorem i_M_neighbour_65 : decode m_M_neighbour.2.1 65 = .ok (.aload_n 0, 1) := by decide +kernel
theorem i_M_neighbour_66 : qGet m_M_neighbour 66 5 6 := ⟨26, _, by decide +kernel, rfl, by decide, rfl, Or.inl wd_787⟩
theorem i_M_neighbour_69 : decode m_M_neighbour.2.1 69 = .ok (.iload 6, 2) := by decide +kernel
theorem i_M_neighbour_71 : decode m_M_neighbour.2.1 71 = .ok (.iaload, 1) := by decide +kernel
theorem i_M_neighbour_72 : decode m_M_neighbour.2.1 72 = .ok (.aload_n 0, 1) := by decide +kernel
theorem i_M_neighbour_73 : qGet m_M_neighbour 73 5 6 := ⟨26, _, by decide +kernel, rfl, by decide, rfl, Or.inl wd_787⟩
theorem i_M_neighbour_76 : decode m_M_neighbour.2.1 76 = .ok (.iload 4, 2) := by decide +kernel
theorem i_M_neighbour_78 : decode m_M_neighbour.2.1 78 = .ok (.iaload, 1) := by decide +kernel
theorem i_M_neighbour_79 : decode m_M_neighbour.2.1 79 = .ok (.if_icmp .ge 8, 3) := by decide +kernel
theorem i_M_neighbour_82 : decode m_M_neighbour.2.1 82 = .ok (.iload 6, 2) := by decide +kernel
theorem i_M_neighbour_84 : decode m_M_neighbour.2.1 84 = .ok (.goto 5, 3) := by decide +kernel
theorem i_M_neighbour_87 : decode m_M_neighbour.2.1 87 = .ok (.iload 4, 2) := by decide +kernel
theorem i_M_neighbour_89 : decode m_M_neighbour.2.1 89 = .ok (.istore 4, 2) := by decide +kernel
theorem i_M_neighbour_91 : decode m_M_neighbour.2.1 91 = .ok (.aload_n 0, 1) := by decide +kernel
theorem i_M_neighbour_92 : qGet m_M_neighbour 92 5 6 := ⟨26, _, by decide +kernel, rfl, by decide, rfl, Or.inl wd_787⟩
theorem i_M_neighbour_95 : decode m_M_neighbour.2.1 95 = .ok (.iload 6, 2) := by decide +kernel
theorem i_M_neighbour_97 : decode m_M_neighbour.2.1 97 = .ok (.iaload, 1) := by decide +kernel
theorem i_M_neighbour_98 : decode m_M_neighbour.2.1 98 = .ok (.aload_n 0, 1) := by decide +kernel
theorem i_M_neighbour_99 : qGet m_M_neighbour 99 5 6 := ⟨26, _, by decide +kernel, rfl, by decide, rfl, Or.inl wd_787⟩
theorem i_M_neighbour_102 : decode m_M_neighbour.2.1 102 = .ok (.iload_n 3, 1) := by decide +kernel
theorem i_M_neighbour_103 : decode m_M_neighbour.2.1 103 = .ok (.iaload, 1) := by decide +kernel
theorem i_M_neighbour_104 : decode m_M_neighbour.2.1 104 = .ok (.if_icmp .ge 30, 3) := by decide +kernel
theorem i_M_neighbour_107 : decode m_M_neighbour.2.1 107 = .ok (.iload 5, 2) := by decide +kernel
theorem i_M_neighbour_109 : decode m_M_neighbour.2.1 109 = .ok (.ifCond .lt 20, 3) := by decide +kernel
theorem i_M_neighbour_112 : decode m_M_neighbour.2.1 112 = .ok (.aload_n 0, 1) := by decide +kernel
theorem i_M_neighbour_113 : qGet m_M_neighbour 113 5 6 := ⟨26, _, by decide +kernel, rfl, by decide, rfl, Or.inl wd_787⟩
theorem i_M_neighbour_116 : decode m_M_neighbour.2.1 116 = .ok (.iload 6, 2) := by decide +kernel
theorem i_M_neighbour_118 : decode m_M_neighbour.2.1 118 = .ok (.iaload, 1) := by decide +kernel
theorem i_M_neighbour_119 : decode m_M_neighbour.2.1 119 = .ok (.aload_n 0, 1) := by decide +kernel
theorem i_M_neighbour_120 : qGet m_M_neighbour 120 5 6 := ⟨26, _, by decide +kernel, rfl, by decide, rfl, Or.inl wd_787⟩
theorem i_M_neighbour_123 : decode m_M_neighbour.2.1 123 = .ok (.iload 5, 2) := by decide +kernel
theorem i_M_neighbour_125 : decode m_M_neighbour.2.1 125 = .ok (.iaload, 1) := by decide +kernel
theorem i_M_neighbour_126 : decode m_M_neighbour.2.1 126 = .ok (.if_icmp .le 8, 3) := by decide +kernel
theorem i_M_neighbour_129 : decode m_M_neighbour.2.1 129 = .ok (.iload 6, 2) := by decide +kernel
theorem i_M_neighbour_131 : decode m_M_neighbour.2.1 131 = .ok (.goto 5, 3) := by decide +kernel
theorem i_M_neighbour_134 : decode m_M_neighbour.2.1 134 = .ok (.iload 5, 2) := by decide +kernel
theorem i_M_neighbour_136 : decode m_M_neighbour.2.1 136 = .ok (.istore 5, 2) := by decide +kernel
theorem i_M_neighbour_138 : decode m_M_neighbour.2.1 138 = .ok (.iinc 6 1, 3) := by decide +kernel
theorem i_M_neighbour_141 : decode m_M_neighbour.2.1 141 = .ok (.goto (-129), 3) := by decide +kernel
theorem i_M_neighbour_144 : decode m_M_neighbour.2.1 144 = .ok (.iload 4, 2) := by decide +kernel
theorem i_M_neighbour_146 : decode m_M_neighbour.2.1 146 = .ok (.ifCond .ge 8, 3) := by decide +kernel
theorem i_M_neighbour_149 : decode m_M_neighbour.2.1 149 = .ok (.iload 5, 2) := by decide +kernel
theorem i_M_neighbour_151 : decode m_M_neighbour.2.1 151 = .ok (.goto 5, 3) := by decide +kernel
theorem i_M_neighbour_154 : decode m_M_neighbour.2.1 154 = .ok (.iload 4, 2) := by decide +kernel
theorem i_M_neighbour_156 : decode m_M_neighbour.2.1 156 = .ok (.ireturn, 1) := by decide +kernel
theorem i_M_remake_0 : decode m_M_remake.2.1 0 = .ok (.aload_n 0, 1) := by decide +kernel
theorem i_M_remake_1 : decode m_M_remake.2.1 1 = .ok (.aload_n 0, 1) := by decide +kernel
theorem i_M_remake_2 : qGet m_M_remake 2 5 1 := ⟨7, _, by decide +kernel, rfl, by decide, rfl, Or.inl wd_782⟩
theorem i_M_remake_5 : decode m_M_remake.2.1 5 = .ok (.iload_n 1, 1) := by decide +kernel
theorem i_M_remake_6 : decode m_M_remake.2.1 6 = .ok (.iaload, 1) := by decide +kernel
theorem i_M_remake_7 : decode m_M_remake.2.1 7 = .ok (.iload_n 2, 1) := by decide +kernel
theorem i_M_remake_8 : qInv m_M_remake 8 m_M_newPage 5 2 := ⟨177, _, by decide +kernel, rfl, rfl, wd_974, wd_976, ws_33, by decide +kernel⟩
theorem i_M_remake_11 : decode m_M_remake.2.1 11 = .ok (.istore 6, 2) := by decide +kernel
theorem i_M_remake_13 : decode m_M_remake.2.1 13 = .ok (.aload_n 0, 1) := by decide +kernel
theorem i_M_remake_14 : qGet m_M_remake 14 5 33 := ⟨132, _, by decide +kernel, rfl, by decide, rfl, Or.inl wd_814⟩
theorem i_M_remake_17 : decode m_M_remake.2.1 17 = .ok (.bipush 10, 2) := by decide +kernel
theorem i_M_remake_19 : decode m_M_remake.2.1 19 = .ok (.if_icmp .le 14, 3) := by decide +kernel
theorem i_M_remake_22 : decode m_M_remake.2.1 22 = .ok (.aload_n 0, 1) := by decide +kernel
theorem i_M_remake_23 : qGet m_M_remake 23 5 33 := ⟨132, _, by decide +kernel, rfl, by decide, rfl, Or.inl wd_814⟩
theorem i_M_remake_26 : decode m_M_remake.2.1 26 = .ok (.iconst 1, 1) := by decide +kernel
theorem i_M_remake_27 : decode m_M_remake.2.1 27 = .ok (.iadd, 1) := by decide +kernel
theorem i_M_remake_28 : decode m_M_remake.2.1 28 = .ok (.iconst 2, 1) := by decide +kernel
theorem i_M_remake_29 : decode m_M_remake.2.1 29 = .ok (.idiv, 1) := by decide +kernel
theorem i_M_remake_30 : decode m_M_remake.2.1 30 = .ok (.goto 7, 3) := by decide +kernel
theorem i_M_remake_33 : decode m_M_remake.2.1 33 = .ok (.aload_n 0, 1) := by decide +kernel
theorem i_M_remake_34 : qGet m_M_remake 34 5 33 := ⟨132, _, by decide +kernel, rfl, by decide, rfl, Or.inl wd_814⟩
theorem i_M_remake_37 : decode m_M_remake.2.1 37 = .ok (.istore 7, 2) := by decide +kernel
theorem i_M_remake_39 : decode m_M_remake.2.1 39 = .ok (.iconst 0, 1) := by decide +kernel
theorem i_M_remake_40 : decode m_M_remake.2.1 40 = .ok (.istore 8, 2) := by decide +kernel
theorem i_M_remake_42 : decode m_M_remake.2.1 42 = .ok (.iload 8, 2) := by decide +kernel
theorem i_M_remake_44 : decode m_M_remake.2.1 44 = .ok (.iload 7, 2) := by decide +kernel
theorem i_M_remake_46 : decode m_M_remake.2.1 46 = .ok (.if_icmp .ge 30, 3) := by decide +kernel
theorem i_M_remake_49 : decode m_M_remake.2.1 49 = .ok (.aload_n 0, 1) := by decide +kernel
theorem i_M_remake_50 : decode m_M_remake.2.1 50 = .ok (.iload 6, 2) := by decide +kernel
theorem i_M_remake_52 : decode m_M_remake.2.1 52 = .ok (.aload_n 0, 1) := by decide +kernel
theorem i_M_remake_53 : qGet m_M_remake 53 5 34 := ⟨82, _, by decide +kernel, rfl, by decide, rfl, Or.inl wd_815⟩
theorem i_M_remake_56 : decode m_M_remake.2.1 56 = .ok (.iload 8, 2) := by decide +kernel
theorem i_M_remake_58 : decode m_M_remake.2.1 58 = .ok (.iaload, 1) := by decide +kernel
theorem i_M_remake_59 : decode m_M_remake.2.1 59 = .ok (.aload_n 0, 1) := by decide +kernel
theorem i_M_remake_60 : qGet m_M_remake 60 5 35 := ⟨85, _, by decide +kernel, rfl, by decide, rfl, Or.inl wd_816⟩
theorem i_M_remake_63 : decode m_M_remake.2.1 63 = .ok (.iload 8, 2) := by decide +kernel
theorem i_M_remake_65 : decode m_M_remake.2.1 65 = .ok (.laload, 1) := by decide +kernel
theorem i_M_remake_66 : decode m_M_remake.2.1 66 = .ok (.iload_n 2, 1) := by decide +kernel
theorem i_M_remake_67 : qInv m_M_remake 67 m_M_append 5 4 := ⟨163, _, by decide +kernel, rfl, rfl, wd_958, wd_960, ws_29, by decide +kernel⟩
theorem i_M_remake_70 : decode m_M_remake.2.1 70 = .ok (.iinc 8 1, 3) := by decide +kernel
theorem i_M_remake_73 : decode m_M_remake.2.1 73 = .ok (.goto (-31), 3) := by decide +kernel
theorem i_M_remake_76 : decode m_M_remake.2.1 76 = .ok (.iconst (-1), 1) := by decide +kernel
theorem i_M_remake_77 : decode m_M_remake.2.1 77 = .ok (.istore 8, 2) := by decide +kernel
theorem i_M_remake_79 : decode m_M_remake.2.1 79 = .ok (.iload 7, 2) := by decide +kernel
theorem i_M_remake_81 : decode m_M_remake.2.1 81 = .ok (.aload_n 0, 1) := by decide +kernel
theorem i_M_remake_82 : qGet m_M_remake 82 5 33 := ⟨132, _, by decide +kernel, rfl, by decide, rfl, Or.inl wd_814⟩
theorem i_M_remake_85 : decode m_M_remake.2.1 85 = .ok (.if_icmp .ge 56, 3) := by decide +kernel
theorem i_M_remake_88 : decode m_M_remake.2.1 88 = .ok (.aload_n 0, 1) := by decide +kernel
theorem i_M_remake_89 : decode m_M_remake.2.1 89 = .ok (.aload_n 0, 1) := by decide +kernel
theorem i_M_remake_90 : qGet m_M_remake 90 5 1 := ⟨7, _, by decide +kernel, rfl, by decide, rfl, Or.inl wd_782⟩
theorem i_M_remake_93 : decode m_M_remake.2.1 93 = .ok (.iload_n 1, 1) := by decide +kernel
theorem i_M_remake_94 : decode m_M_remake.2.1 94 = .ok (.iaload, 1) := by decide +kernel
theorem i_M_remake_95 : decode m_M_remake.2.1 95 = .ok (.iload_n 2, 1) := by decide +kernel
theorem i_M_remake_96 : qInv m_M_remake 96 m_M_newPage 5 2 := ⟨177, _, by decide +kernel, rfl, rfl, wd_974, wd_976, ws_33, by decide +kernel⟩
theorem i_M_remake_99 : decode m_M_remake.2.1 99 = .ok (.istore 8, 2) := by decide +kernel
theorem i_M_remake_101 : decode m_M_remake.2.1 101 = .ok (.iload 7, 2) := by decide +kernel
theorem i_M_remake_103 : decode m_M_remake.2.1 103 = .ok (.istore 9, 2) := by decide +kernel
theorem i_M_remake_105 : decode m_M_remake.2.1 105 = .ok (.iload 9, 2) := by decide +kernel
theorem i_M_remake_107 : decode m_M_remake.2.1 107 = .ok (.aload_n 0, 1) := by decide +kernel
theorem i_M_remake_108 : qGet m_M_remake 108 5 33 := ⟨132, _, by decide +kernel, rfl, by decide, rfl, Or.inl wd_814⟩
theorem i_M_remake_111 : decode m_M_remake.2.1 111 = .ok (.if_icmp .ge 30, 3) := by decide +kernel
theorem i_M_remake_114 : decode m_M_remake.2.1 114 = .ok (.aload_n 0, 1) := by decide +kernel
theorem i_M_remake_115 : decode m_M_remake.2.1 115 = .ok (.iload 8, 2) := by decide +kernel
theorem i_M_remake_117 : decode m_M_remake.2.1 117 = .ok (.aload_n 0, 1) := by decide +kernel
theorem i_M_remake_118 : qGet m_M_remake 118 5 34 := ⟨82, _, by decide +kernel, rfl, by decide, rfl, Or.inl wd_815⟩
theorem i_M_remake_121 : decode m_M_remake.2.1 121 = .ok (.iload 9, 2) := by decide +kernel
theorem i_M_remake_123 : decode m_M_remake.2.1 123 = .ok (.iaload, 1) := by decide +kernel
theorem i_M_remake_124 : decode m_M_remake.2.1 124 = .ok (.aload_n 0, 1) := by decide +kernel
theorem i_M_remake_125 : qGet m_M_remake 125 5 35 := ⟨85, _, by decide +kernel, rfl, by decide, rfl, Or.inl wd_816⟩
theorem i_M_remake_128 : decode m_M_remake.2.1 128 = .ok (.iload 9, 2) := by decide +kernel
theorem i_M_remake_130 : decode m_M_remake.2.1 130 = .ok (.laload, 1) := by decide +kernel
theorem i_M_remake_131 : decode m_M_remake.2.1 131 = .ok (.iload_n 2, 1) := by decide +kernel
theorem i_M_remake_132 : qInv m_M_remake 132 m_M_append 5 4 := ⟨163, _, by decide +kernel, rfl, rfl, wd_958, wd_960, ws_29, by decide +kernel⟩
theorem i_M_remake_135 : decode m_M_remake.2.1 135 = .ok (.iinc 9 1, 3) := by decide +kernel
theorem i_M_remake_138 : decode m_M_remake.2.1 138 = .ok (.goto (-33), 3) := by decide +kernel
theorem i_M_remake_141 : decode m_M_remake.2.1 141 = .ok (.iload_n 3, 1) := by decide +kernel
theorem i_M_remake_142 : decode m_M_remake.2.1 142 = .ok (.ifCond .eq 73, 3) := by decide +kernel
theorem i_M_remake_145 : decode m_M_remake.2.1 145 = .ok (.aload_n 0, 1) := by decide +kernel
theorem i_M_remake_146 : qGet m_M_remake 146 5 14 := ⟨46, _, by decide +kernel, rfl, by decide, rfl, Or.inl wd_795⟩
theorem i_M_remake_149 : decode m_M_remake.2.1 149 = .ok (.iload_n 2, 1) := by decide +kernel
theorem i_M_remake_150 : decode m_M_remake.2.1 150 = .ok (.iload 6, 2) := by decide +kernel
theorem i_M_remake_152 : decode m_M_remake.2.1 152 = .ok (.iastore, 1) := by decide +kernel
theorem i_M_remake_153 : decode m_M_remake.2.1 153 = .ok (.iload 8, 2) := by decide +kernel
theorem i_M_remake_155 : decode m_M_remake.2.1 155 = .ok (.ifCond .lt 59, 3) := by decide +kernel
theorem i_M_remake_158 : decode m_M_remake.2.1 158 = .ok (.aload_n 0, 1) := by decide +kernel
theorem i_M_remake_159 : decode m_M_remake.2.1 159 = .ok (.aload_n 0, 1) := by decide +kernel
theorem i_M_remake_160 : qGet m_M_remake 160 5 1 := ⟨7, _, by decide +kernel, rfl, by decide, rfl, Or.inl wd_782⟩
theorem i_M_remake_163 : decode m_M_remake.2.1 163 = .ok (.iload_n 1, 1) := by decide +kernel
theorem i_M_remake_164 : decode m_M_remake.2.1 164 = .ok (.iaload, 1) := by decide +kernel
theorem i_M_remake_165 : decode m_M_remake.2.1 165 = .ok (.iconst 1, 1) := by decide +kernel
theorem i_M_remake_166 : decode m_M_remake.2.1 166 = .ok (.iadd, 1) := by decide +kernel
theorem i_M_remake_167 : decode m_M_remake.2.1 167 = .ok (.iload_n 2, 1) := by decide +kernel
theorem i_M_remake_168 : qInv m_M_remake 168 m_M_newPage 5 2 := ⟨177, _, by decide +kernel, rfl, rfl, wd_974, wd_976, ws_33, by decide +kernel⟩
theorem i_M_remake_171 : decode m_M_remake.2.1 171 = .ok (.istore 9, 2) := by decide +kernel
theorem i_M_remake_173 : decode m_M_remake.2.1 173 = .ok (.aload_n 0, 1) := by decide +kernel
theorem i_M_remake_174 : decode m_M_remake.2.1 174 = .ok (.iload 9, 2) := by decide +kernel
theorem i_M_remake_176 : decode m_M_remake.2.1 176 = .ok (.aload_n 0, 1) := by decide +kernel
theorem i_M_remake_177 : qGet m_M_remake 177 5 34 := ⟨82, _, by decide +kernel, rfl, by decide, rfl, Or.inl wd_815⟩
theorem i_M_remake_180 : decode m_M_remake.2.1 180 = .ok (.iconst 0, 1) := by decide +kernel
theorem i_M_remake_181 : decode m_M_remake.2.1 181 = .ok (.iaload, 1) := by decide +kernel
theorem i_M_remake_182 : decode m_M_remake.2.1 182 = .ok (.iload 6, 2) := by decide +kernel
theorem i_M_remake_184 : decode m_M_remake.2.1 184 = .ok (.i2l, 1) := by decide +kernel
theorem i_M_remake_185 : decode m_M_remake.2.1 185 = .ok (.iload_n 2, 1) := by decide +kernel
theorem i_M_remake_186 : qInv m_M_remake 186 m_M_append 5 4 := ⟨163, _, by decide +kernel, rfl, rfl, wd_958, wd_960, ws_29, by decide +kernel⟩
theorem i_M_remake_189 : decode m_M_remake.2.1 189 = .ok (.aload_n 0, 1) := by decide +kernel
theorem i_M_remake_190 : decode m_M_remake.2.1 190 = .ok (.iload 9, 2) := by decide +kernel
theorem i_M_remake_192 : decode m_M_remake.2.1 192 = .ok (.aload_n 0, 1) := by decide +kernel
theorem i_M_remake_193 : qGet m_M_remake 193 5 34 := ⟨82, _, by decide +kernel, rfl, by decide, rfl, Or.inl wd_815⟩
theorem i_M_remake_196 : decode m_M_remake.2.1 196 = .ok (.iload 7, 2) := by decide +kernel
theorem i_M_remake_198 : decode m_M_remake.2.1 198 = .ok (.iaload, 1) := by decide +kernel
theorem i_M_remake_199 : decode m_M_remake.2.1 199 = .ok (.iload 8, 2) := by decide +kernel
theorem i_M_remake_201 : decode m_M_remake.2.1 201 = .ok (.i2l, 1) := by decide +kernel
theorem i_M_remake_202 : decode m_M_remake.2.1 202 = .ok (.iload_n 2, 1) := by decide +kernel
theorem i_M_remake_203 : qInv m_M_remake 203 m_M_append 5 4 := ⟨163, _, by decide +kernel, rfl, rfl, wd_958, wd_960, ws_29, by decide +kernel⟩
theorem i_M_remake_206 : decode m_M_remake.2.1 206 = .ok (.aload_n 0, 1) := by decide +kernel
theorem i_M_remake_207 : qGet m_M_remake 207 5 14 := ⟨46, _, by decide +kernel, rfl, by decide, rfl, Or.inl wd_795⟩
theorem i_M_remake_210 : decode m_M_remake.2.1 210 = .ok (.iload_n 2, 1) := by decide +kernel
theorem i_M_remake_211 : decode m_M_remake.2.1 211 = .ok (.iload 9, 2) := by decide +kernel
theorem i_M_remake_213 : decode m_M_remake.2.1 213 = .ok (.iastore, 1) := by decide +kernel
theorem i_M_remake_214 : decode m_M_remake.2.1 214 = .ok (.return_, 1) := by decide +kernel
theorem i_M_remake_215 : decode m_M_remake.2.1 215 = .ok (.aload_n 0, 1) := by decide +kernel
theorem i_M_remake_216 : decode m_M_remake.2.1 216 = .ok (.iload 4, 2) := by decide +kernel
theorem i_M_remake_218 : qPut m_M_remake 218 5 28 := ⟨135, _, by decide +kernel, rfl, by decide, rfl, Or.inl rfl, Or.inl wd_809⟩
theorem i_M_remake_221 : decode m_M_remake.2.1 221 = .ok (.aload_n 0, 1) := by decide +kernel
theorem i_M_remake_222 : decode m_M_remake.2.1 222 = .ok (.iload 5, 2) := by decide +kernel
theorem i_M_remake_224 : qPut m_M_remake 224 5 29 := ⟨138, _, by decide +kernel, rfl, by decide, rfl, Or.inl rfl, Or.inl wd_810⟩
theorem i_M_remake_227 : decode m_M_remake.2.1 227 = .ok (.aload_n 0, 1) := by decide +kernel
theorem i_M_remake_228 : qGet m_M_remake 228 5 31 := ⟨76, _, by decide +kernel, rfl, by decide, rfl, Or.inl wd_812⟩
theorem i_M_remake_231 : decode m_M_remake.2.1 231 = .ok (.iconst 0, 1) := by decide +kernel
theorem i_M_remake_232 : decode m_M_remake.2.1 232 = .ok (.iload 5, 2) := by decide +kernel
theorem i_M_remake_234 : decode m_M_remake.2.1 234 = .ok (.ifCond .lt 30, 3) := by decide +kernel
theorem i_M_remake_237 : decode m_M_remake.2.1 237 = .ok (.aload_n 0, 1) := by decide +kernel
theorem i_M_remake_238 : qGet m_M_remake 238 5 6 := ⟨26, _, by decide +kernel, rfl, by decide, rfl, Or.inl wd_787⟩
theorem i_M_remake_241 : decode m_M_remake.2.1 241 = .ok (.iload 5, 2) := by decide +kernel
theorem i_M_remake_243 : decode m_M_remake.2.1 243 = .ok (.iaload, 1) := by decide +kernel
theorem i_M_remake_244 : decode m_M_remake.2.1 244 = .ok (.aload_n 0, 1) := by decide +kernel
theorem i_M_remake_245 : qGet m_M_remake 245 5 6 := ⟨26, _, by decide +kernel, rfl, by decide, rfl, Or.inl wd_787⟩
theorem i_M_remake_248 : decode m_M_remake.2.1 248 = .ok (.iload 4, 2) := by decide +kernel
theorem i_M_remake_250 : decode m_M_remake.2.1 250 = .ok (.iaload, 1) := by decide +kernel
theorem i_M_remake_251 : decode m_M_remake.2.1 251 = .ok (.if_icmp .ge 13, 3) := by decide +kernel
theorem i_M_remake_254 : decode m_M_remake.2.1 254 = .ok (.aload_n 0, 1) := by decide +kernel
theorem i_M_remake_255 : qGet m_M_remake 255 5 6 := ⟨26, _, by decide +kernel, rfl, by decide, rfl, Or.inl wd_787⟩
theorem i_M_remake_258 : decode m_M_remake.2.1 258 = .ok (.iload 5, 2) := by decide +kernel
theorem i_M_remake_260 : decode m_M_remake.2.1 260 = .ok (.iaload, 1) := by decide +kernel
theorem i_M_remake_261 : decode m_M_remake.2.1 261 = .ok (.goto 10, 3) := by decide +kernel
theorem i_M_remake_264 : decode m_M_remake.2.1 264 = .ok (.aload_n 0, 1) := by decide +kernel
theorem i_M_remake_265 : qGet m_M_remake 265 5 6 := ⟨26, _, by decide +kernel, rfl, by decide, rfl, Or.inl wd_787⟩
theorem i_M_remake_268 : decode m_M_remake.2.1 268 = .ok (.iload 4, 2) := by decide +kernel
theorem i_M_remake_270 : decode m_M_remake.2.1 270 = .ok (.iaload, 1) := by decide +kernel
theorem i_M_remake_271 : decode m_M_remake.2.1 271 = .ok (.iastore, 1) := by decide +kernel
theorem i_M_remake_272 : decode m_M_remake.2.1 272 = .ok (.aload_n 0, 1) := by decide +kernel
theorem i_M_remake_273 : qGet m_M_remake 273 5 31 := ⟨76, _, by decide +kernel, rfl, by decide, rfl, Or.inl wd_812⟩
theorem i_M_remake_276 : decode m_M_remake.2.1 276 = .ok (.iconst 0, 1) := by decide +kernel
theorem i_M_remake_277 : decode m_M_remake.2.1 277 = .ok (.aload_n 0, 1) := by decide +kernel
theorem i_M_remake_278 : qGet m_M_remake 278 5 34 := ⟨82, _, by decide +kernel, rfl, by decide, rfl, Or.inl wd_815⟩
theorem i_M_remake_281 : decode m_M_remake.2.1 281 = .ok (.iconst 0, 1) := by decide +kernel
theorem i_M_remake_282 : decode m_M_remake.2.1 282 = .ok (.iaload, 1) := by decide +kernel
theorem i_M_remake_283 : decode m_M_remake.2.1 283 = .ok (.aload_n 0, 1) := by decide +kernel
theorem i_M_remake_284 : qGet m_M_remake 284 5 31 := ⟨76, _, by decide +kernel, rfl, by decide, rfl, Or.inl wd_812⟩
theorem i_M_remake_287 : decode m_M_remake.2.1 287 = .ok (.iconst 0, 1) := by decide +kernel
theorem i_M_remake_288 : decode m_M_remake.2.1 288 = .ok (.iaload, 1) := by decide +kernel
theorem i_M_remake_289 : decode m_M_remake.2.1 289 = .ok (.if_icmp .ge 12, 3) := by decide +kernel
theorem i_M_remake_292 : decode m_M_remake.2.1 292 = .ok (.aload_n 0, 1) := by decide +kernel
theorem i_M_remake_293 : qGet m_M_remake 293 5 34 := ⟨82, _, by decide +kernel, rfl, by decide, rfl, Or.inl wd_815⟩
theorem i_M_remake_296 : decode m_M_remake.2.1 296 = .ok (.iconst 0, 1) := by decide +kernel
theorem i_M_remake_297 : decode m_M_remake.2.1 297 = .ok (.iaload, 1) := by decide +kernel
theorem i_M_remake_298 : decode m_M_remake.2.1 298 = .ok (.goto 9, 3) := by decide +kernel
theorem i_M_remake_301 : decode m_M_remake.2.1 301 = .ok (.aload_n 0, 1) := by decide +kernel
theorem i_M_remake_302 : qGet m_M_remake 302 5 31 := ⟨76, _, by decide +kernel, rfl, by decide, rfl, Or.inl wd_812⟩
theorem i_M_remake_305 : decode m_M_remake.2.1 305 = .ok (.iconst 0, 1) := by decide +kernel
theorem i_M_remake_306 : decode m_M_remake.2.1 306 = .ok (.iaload, 1) := by decide +kernel
theorem i_M_remake_307 : decode m_M_remake.2.1 307 = .ok (.iastore, 1) := by decide +kernel
theorem i_M_remake_308 : decode m_M_remake.2.1 308 = .ok (.aload_n 0, 1) := by decide +kernel
theorem i_M_remake_309 : qGet m_M_remake 309 5 32 := ⟨79, _, by decide +kernel, rfl, by decide, rfl, Or.inl wd_813⟩
theorem i_M_remake_312 : decode m_M_remake.2.1 312 = .ok (.iconst 0, 1) := by decide +kernel
theorem i_M_remake_313 : decode m_M_remake.2.1 313 = .ok (.iload 6, 2) := by decide +kernel
theorem i_M_remake_315 : decode m_M_remake.2.1 315 = .ok (.i2l, 1) := by decide +kernel
theorem i_M_remake_316 : decode m_M_remake.2.1 316 = .ok (.lastore, 1) := by decide +kernel
theorem i_M_remake_317 : decode m_M_remake.2.1 317 = .ok (.aload_n 0, 1) := by decide +kernel
theorem i_M_remake_318 : decode m_M_remake.2.1 318 = .ok (.iconst 1, 1) := by decide +kernel
theorem i_M_remake_319 : qPut m_M_remake 319 5 30 := ⟨152, _, by decide +kernel, rfl, by decide, rfl, Or.inl rfl, Or.inl wd_811⟩
theorem i_M_remake_322 : decode m_M_remake.2.1 322 = .ok (.iload 8, 2) := by decide +kernel
theorem i_M_remake_324 : decode m_M_remake.2.1 324 = .ok (.ifCond .lt 30, 3) := by decide +kernel
theorem i_M_remake_327 : decode m_M_remake.2.1 327 = .ok (.aload_n 0, 1) := by decide +kernel
theorem i_M_remake_328 : qGet m_M_remake 328 5 31 := ⟨76, _, by decide +kernel, rfl, by decide, rfl, Or.inl wd_812⟩
theorem i_M_remake_331 : decode m_M_remake.2.1 331 = .ok (.iconst 1, 1) := by decide +kernel
theorem i_M_remake_332 : decode m_M_remake.2.1 332 = .ok (.aload_n 0, 1) := by decide +kernel
theorem i_M_remake_333 : qGet m_M_remake 333 5 34 := ⟨82, _, by decide +kernel, rfl, by decide, rfl, Or.inl wd_815⟩
theorem i_M_remake_336 : decode m_M_remake.2.1 336 = .ok (.iload 7, 2) := by decide +kernel
theorem i_M_remake_338 : decode m_M_remake.2.1 338 = .ok (.iaload, 1) := by decide +kernel
theorem i_M_remake_339 : decode m_M_remake.2.1 339 = .ok (.iastore, 1) := by decide +kernel
theorem i_M_remake_340 : decode m_M_remake.2.1 340 = .ok (.aload_n 0, 1) := by decide +kernel
theorem i_M_remake_341 : qGet m_M_remake 341 5 32 := ⟨79, _, by decide +kernel, rfl, by decide, rfl, Or.inl wd_813⟩
theorem i_M_remake_344 : decode m_M_remake.2.1 344 = .ok (.iconst 1, 1) := by decide +kernel
theorem i_M_remake_345 : decode m_M_remake.2.1 345 = .ok (.iload 8, 2) := by decide +kernel
theorem i_M_remake_347 : decode m_M_remake.2.1 347 = .ok (.i2l, 1) := by decide +kernel
theorem i_M_remake_348 : decode m_M_remake.2.1 348 = .ok (.lastore, 1) := by decide +kernel
theorem i_M_remake_349 : decode m_M_remake.2.1 349 = .ok (.aload_n 0, 1) := by decide +kernel
theorem i_M_remake_350 : decode m_M_remake.2.1 350 = .ok (.iconst 2, 1) := by decide +kernel
theorem i_M_remake_351 : qPut m_M_remake 351 5 30 := ⟨152, _, by decide +kernel, rfl, by decide, rfl, Or.inl rfl, Or.inl wd_811⟩
theorem i_M_remake_354 : decode m_M_remake.2.1 354 = .ok (.return_, 1) := by decide +kernel
theorem i_M_isRefused_0 : decode m_M_isRefused.2.1 0 = .ok (.sipush 256, 3) := by decide +kernel
theorem i_M_isRefused_3 : decode m_M_isRefused.2.1 3 = .ok (.aload_n 0, 1) := by decide +kernel
theorem i_M_isRefused_4 : qGet m_M_isRefused 4 5 10 := ⟨39, _, by decide +kernel, rfl, by decide, rfl, Or.inl wd_791⟩
theorem i_M_isRefused_7 : decode m_M_isRefused.2.1 7 = .ok (.isub, 1) := by decide +kernel
theorem i_M_isRefused_8 : decode m_M_isRefused.2.1 8 = .ok (.iconst 2, 1) := by decide +kernel
theorem i_M_isRefused_9 : decode m_M_isRefused.2.1 9 = .ok (.aload_n 0, 1) := by decide +kernel
theorem i_M_isRefused_10 : qGet m_M_isRefused 10 5 1 := ⟨7, _, by decide +kernel, rfl, by decide, rfl, Or.inl wd_782⟩
theorem i_M_isRefused_13 : decode m_M_isRefused.2.1 13 = .ok (.aload_n 0, 1) := by decide +kernel
theorem i_M_isRefused_14 : qGet m_M_isRefused 14 5 14 := ⟨46, _, by decide +kernel, rfl, by decide, rfl, Or.inl wd_795⟩
theorem i_M_isRefused_17 : decode m_M_isRefused.2.1 17 = .ok (.aload_n 0, 1) := by decide +kernel
theorem i_M_isRefused_18 : qGet m_M_isRefused 18 5 12 := ⟨145, _, by decide +kernel, rfl, by decide, rfl, Or.inl wd_793⟩
theorem i_M_isRefused_21 : decode m_M_isRefused.2.1 21 = .ok (.iaload, 1) := by decide +kernel
theorem i_M_isRefused_22 : decode m_M_isRefused.2.1 22 = .ok (.iaload, 1) := by decide +kernel
theorem i_M_isRefused_23 : decode m_M_isRefused.2.1 23 = .ok (.iconst 1, 1) := by decide +kernel
theorem i_M_isRefused_24 : decode m_M_isRefused.2.1 24 = .ok (.iadd, 1) := by decide +kernel
theorem i_M_isRefused_25 : decode m_M_isRefused.2.1 25 = .ok (.imul, 1) := by decide +kernel
theorem i_M_isRefused_26 : decode m_M_isRefused.2.1 26 = .ok (.iconst 1, 1) := by decide +kernel
theorem i_M_isRefused_27 : decode m_M_isRefused.2.1 27 = .ok (.iadd, 1) := by decide +kernel
theorem i_M_isRefused_28 : decode m_M_isRefused.2.1 28 = .ok (.if_icmp .ge 7, 3) := by decide +kernel
theorem i_M_isRefused_31 : decode m_M_isRefused.2.1 31 = .ok (.iconst 1, 1) := by decide +kernel
theorem i_M_isRefused_32 : decode m_M_isRefused.2.1 32 = .ok (.goto 4, 3) := by decide +kernel
theorem i_M_isRefused_35 : decode m_M_isRefused.2.1 35 = .ok (.iconst 0, 1) := by decide +kernel
theorem i_M_isRefused_36 : decode m_M_isRefused.2.1 36 = .ok (.ireturn, 1) := by decide +kernel
theorem i_M_record_0 : decode m_M_record.2.1 0 = .ok (.aload_n 0, 1) := by decide +kernel
theorem i_M_record_1 : qGet m_M_record 1 5 22 := ⟨64, _, by decide +kernel, rfl, by decide, rfl, Or.inl wd_803⟩
theorem i_M_record_4 : decode m_M_record.2.1 4 = .ok (.aload_n 0, 1) := by decide +kernel
theorem i_M_record_5 : qGet m_M_record 5 5 21 := ⟨180, _, by decide +kernel, rfl, by decide, rfl, Or.inl wd_802⟩
theorem i_M_record_8 : decode m_M_record.2.1 8 = .ok (.iload_n 1, 1) := by decide +kernel
theorem i_M_record_9 : decode m_M_record.2.1 9 = .ok (.bastore, 1) := by decide +kernel
theorem i_M_record_10 : decode m_M_record.2.1 10 = .ok (.aload_n 0, 1) := by decide +kernel
theorem i_M_record_11 : qGet m_M_record 11 5 23 := ⟨67, _, by decide +kernel, rfl, by decide, rfl, Or.inl wd_804⟩
theorem i_M_record_14 : decode m_M_record.2.1 14 = .ok (.aload_n 0, 1) := by decide +kernel
theorem i_M_record_15 : qGet m_M_record 15 5 21 := ⟨180, _, by decide +kernel, rfl, by decide, rfl, Or.inl wd_802⟩
theorem i_M_record_18 : decode m_M_record.2.1 18 = .ok (.iload_n 2, 1) := by decide +kernel
theorem i_M_record_19 : decode m_M_record.2.1 19 = .ok (.iastore, 1) := by decide +kernel
theorem i_M_record_20 : decode m_M_record.2.1 20 = .ok (.aload_n 0, 1) := by decide +kernel
theorem i_M_record_21 : qGet m_M_record 21 5 24 := ⟨70, _, by decide +kernel, rfl, by decide, rfl, Or.inl wd_805⟩
theorem i_M_record_24 : decode m_M_record.2.1 24 = .ok (.aload_n 0, 1) := by decide +kernel
theorem i_M_record_25 : qGet m_M_record 25 5 21 := ⟨180, _, by decide +kernel, rfl, by decide, rfl, Or.inl wd_802⟩
theorem i_M_record_28 : decode m_M_record.2.1 28 = .ok (.lload_n 3, 1) := by decide +kernel
theorem i_M_record_29 : decode m_M_record.2.1 29 = .ok (.lastore, 1) := by decide +kernel
theorem i_M_record_30 : decode m_M_record.2.1 30 = .ok (.aload_n 0, 1) := by decide +kernel
theorem i_M_record_31 : decode m_M_record.2.1 31 = .ok (.dup, 1) := by decide +kernel
theorem i_M_record_32 : qGet m_M_record 32 5 21 := ⟨180, _, by decide +kernel, rfl, by decide, rfl, Or.inl wd_802⟩
theorem i_M_record_35 : decode m_M_record.2.1 35 = .ok (.iconst 1, 1) := by decide +kernel
theorem i_M_record_36 : decode m_M_record.2.1 36 = .ok (.iadd, 1) := by decide +kernel
theorem i_M_record_37 : qPut m_M_record 37 5 21 := ⟨180, _, by decide +kernel, rfl, by decide, rfl, Or.inl rfl, Or.inl wd_802⟩
theorem i_M_record_40 : decode m_M_record.2.1 40 = .ok (.return_, 1) := by decide +kernel
theorem i_M_put_0 : decode m_M_put.2.1 0 = .ok (.aload_n 0, 1) := by decide +kernel
theorem i_M_put_1 : decode m_M_put.2.1 1 = .ok (.aload_n 0, 1) := by decide +kernel
theorem i_M_put_2 : qGet m_M_put 2 5 25 := ⟨116, _, by decide +kernel, rfl, by decide, rfl, Or.inl wd_806⟩
theorem i_M_put_5 : decode m_M_put.2.1 5 = .ok (.aload_n 0, 1) := by decide +kernel
theorem i_M_put_6 : qGet m_M_put 6 5 25 := ⟨116, _, by decide +kernel, rfl, by decide, rfl, Or.inl wd_806⟩
theorem i_M_put_9 : decode m_M_put.2.1 9 = .ok (.ifCond .ne 14, 3) := by decide +kernel
theorem i_M_put_12 : decode m_M_put.2.1 12 = .ok (.aload_n 0, 1) := by decide +kernel
theorem i_M_put_13 : qInv m_M_put 13 m_M_isRefused 5 0 := ⟨183, _, by decide +kernel, rfl, rfl, wd_922, wd_924, ws_20, by decide +kernel⟩
theorem i_M_put_16 : decode m_M_put.2.1 16 = .ok (.ifCond .eq 7, 3) := by decide +kernel
theorem i_M_put_19 : decode m_M_put.2.1 19 = .ok (.iconst 1, 1) := by decide +kernel
theorem i_M_put_20 : decode m_M_put.2.1 20 = .ok (.goto 4, 3) := by decide +kernel
theorem i_M_put_23 : decode m_M_put.2.1 23 = .ok (.iconst 0, 1) := by decide +kernel
theorem i_M_put_24 : decode m_M_put.2.1 24 = .ok (.iconst 0, 1) := by decide +kernel
theorem i_M_put_25 : decode m_M_put.2.1 25 = .ok (.iconst 0, 1) := by decide +kernel
theorem i_M_put_26 : qInv m_M_put 26 m_M_fails 5 4 := ⟨120, _, by decide +kernel, rfl, rfl, wd_926, wd_928, ws_21, by decide +kernel⟩
theorem i_M_put_29 : decode m_M_put.2.1 29 = .ok (.ifCond .eq 5, 3) := by decide +kernel
theorem i_M_put_32 : decode m_M_put.2.1 32 = .ok (.iconst 0, 1) := by decide +kernel
theorem i_M_put_33 : decode m_M_put.2.1 33 = .ok (.ireturn, 1) := by decide +kernel
theorem i_M_put_34 : decode m_M_put.2.1 34 = .ok (.aload_n 0, 1) := by decide +kernel
theorem i_M_put_35 : decode m_M_put.2.1 35 = .ok (.iload_n 1, 1) := by decide +kernel
theorem i_M_put_36 : decode m_M_put.2.1 36 = .ok (.iconst 1, 1) := by decide +kernel
theorem i_M_put_37 : decode m_M_put.2.1 37 = .ok (.lload_n 2, 1) := by decide +kernel
theorem i_M_put_38 : qInv m_M_put 38 m_M_update 5 3 := ⟨187, _, by decide +kernel, rfl, rfl, wd_930, wd_932, ws_22, by decide +kernel⟩
theorem i_M_put_41 : decode m_M_put.2.1 41 = .ok (.aload_n 0, 1) := by decide +kernel
theorem i_M_put_42 : decode m_M_put.2.1 42 = .ok (.iconst 1, 1) := by decide +kernel
theorem i_M_put_43 : decode m_M_put.2.1 43 = .ok (.iload_n 1, 1) := by decide +kernel
theorem i_M_put_44 : decode m_M_put.2.1 44 = .ok (.lload_n 2, 1) := by decide +kernel
theorem i_M_put_45 : qInv m_M_put 45 m_M_record 5 3 := ⟨191, _, by decide +kernel, rfl, rfl, wd_978, wd_980, ws_34, by decide +kernel⟩
theorem i_M_put_48 : decode m_M_put.2.1 48 = .ok (.aload_n 0, 1) := by decide +kernel
theorem i_M_put_49 : qGet m_M_put 49 5 12 := ⟨145, _, by decide +kernel, rfl, by decide, rfl, Or.inl wd_793⟩
theorem i_M_put_52 : decode m_M_put.2.1 52 = .ok (.ireturn, 1) := by decide +kernel
theorem i_M_remove_0 : decode m_M_remove.2.1 0 = .ok (.aload_n 0, 1) := by decide +kernel
theorem i_M_remove_1 : decode m_M_remove.2.1 1 = .ok (.aload_n 0, 1) := by decide +kernel
theorem i_M_remove_2 : qGet m_M_remove 2 5 25 := ⟨116, _, by decide +kernel, rfl, by decide, rfl, Or.inl wd_806⟩
theorem i_M_remove_5 : decode m_M_remove.2.1 5 = .ok (.aload_n 0, 1) := by decide +kernel
theorem i_M_remove_6 : qGet m_M_remove 6 5 25 := ⟨116, _, by decide +kernel, rfl, by decide, rfl, Or.inl wd_806⟩
theorem i_M_remove_9 : decode m_M_remove.2.1 9 = .ok (.ifCond .ne 19, 3) := by decide +kernel
theorem i_M_remove_12 : decode m_M_remove.2.1 12 = .ok (.aload_n 0, 1) := by decide +kernel
theorem i_M_remove_13 : decode m_M_remove.2.1 13 = .ok (.aload_n 0, 1) := by decide +kernel
theorem i_M_remove_14 : qGet m_M_remove 14 5 12 := ⟨145, _, by decide +kernel, rfl, by decide, rfl, Or.inl wd_793⟩
theorem i_M_remove_17 : decode m_M_remove.2.1 17 = .ok (.iload_n 1, 1) := by decide +kernel
theorem i_M_remove_18 : qInv m_M_remove 18 m_M_leafEntry 5 2 := ⟨148, _, by decide +kernel, rfl, rfl, wd_942, wd_944, ws_25, by decide +kernel⟩
theorem i_M_remove_21 : decode m_M_remove.2.1 21 = .ok (.ifCond .ge 7, 3) := by decide +kernel
theorem i_M_remove_24 : decode m_M_remove.2.1 24 = .ok (.iconst 1, 1) := by decide +kernel
theorem i_M_remove_25 : decode m_M_remove.2.1 25 = .ok (.goto 4, 3) := by decide +kernel
theorem i_M_remove_28 : decode m_M_remove.2.1 28 = .ok (.iconst 0, 1) := by decide +kernel
theorem i_M_remove_29 : decode m_M_remove.2.1 29 = .ok (.aload_n 0, 1) := by decide +kernel
theorem i_M_remove_30 : qGet m_M_remove 30 5 25 := ⟨116, _, by decide +kernel, rfl, by decide, rfl, Or.inl wd_806⟩
theorem i_M_remove_33 : decode m_M_remove.2.1 33 = .ok (.ifCond .ne 14, 3) := by decide +kernel
theorem i_M_remove_36 : decode m_M_remove.2.1 36 = .ok (.aload_n 0, 1) := by decide +kernel
theorem i_M_remove_37 : qInv m_M_remove 37 m_M_isRefused 5 0 := ⟨183, _, by decide +kernel, rfl, rfl, wd_922, wd_924, ws_20, by decide +kernel⟩
theorem i_M_remove_40 : decode m_M_remove.2.1 40 = .ok (.ifCond .eq 7, 3) := by decide +kernel
theorem i_M_remove_43 : decode m_M_remove.2.1 43 = .ok (.iconst 1, 1) := by decide +kernel
theorem i_M_remove_44 : decode m_M_remove.2.1 44 = .ok (.goto 4, 3) := by decide +kernel
theorem i_M_remove_47 : decode m_M_remove.2.1 47 = .ok (.iconst 0, 1) := by decide +kernel
theorem i_M_remove_48 : decode m_M_remove.2.1 48 = .ok (.iconst 0, 1) := by decide +kernel
theorem i_M_remove_49 : qInv m_M_remove 49 m_M_fails 5 4 := ⟨120, _, by decide +kernel, rfl, rfl, wd_926, wd_928, ws_21, by decide +kernel⟩
theorem i_M_remove_52 : decode m_M_remove.2.1 52 = .ok (.ifCond .eq 5, 3) := by decide +kernel
theorem i_M_remove_55 : decode m_M_remove.2.1 55 = .ok (.iconst 0, 1) := by decide +kernel
theorem i_M_remove_56 : decode m_M_remove.2.1 56 = .ok (.ireturn, 1) := by decide +kernel
theorem i_M_remove_57 : decode m_M_remove.2.1 57 = .ok (.aload_n 0, 1) := by decide +kernel
theorem i_M_remove_58 : decode m_M_remove.2.1 58 = .ok (.iload_n 1, 1) := by decide +kernel
theorem i_M_remove_59 : decode m_M_remove.2.1 59 = .ok (.iconst 0, 1) := by decide +kernel
theorem i_M_remove_60 : decode m_M_remove.2.1 60 = .ok (.lconst 0, 1) := by decide +kernel
theorem i_M_remove_61 : qInv m_M_remove 61 m_M_update 5 3 := ⟨187, _, by decide +kernel, rfl, rfl, wd_930, wd_932, ws_22, by decide +kernel⟩
theorem i_M_remove_64 : decode m_M_remove.2.1 64 = .ok (.aload_n 0, 1) := by decide +kernel
theorem i_M_remove_65 : decode m_M_remove.2.1 65 = .ok (.iconst 0, 1) := by decide +kernel
theorem i_M_remove_66 : decode m_M_remove.2.1 66 = .ok (.iload_n 1, 1) := by decide +kernel
theorem i_M_remove_67 : decode m_M_remove.2.1 67 = .ok (.lconst 0, 1) := by decide +kernel
theorem i_M_remove_68 : qInv m_M_remove 68 m_M_record 5 3 := ⟨191, _, by decide +kernel, rfl, rfl, wd_978, wd_980, ws_34, by decide +kernel⟩
theorem i_M_remove_71 : decode m_M_remove.2.1 71 = .ok (.aload_n 0, 1) := by decide +kernel
theorem i_M_remove_72 : qGet m_M_remove 72 5 12 := ⟨145, _, by decide +kernel, rfl, by decide, rfl, Or.inl wd_793⟩
theorem i_M_remove_75 : decode m_M_remove.2.1 75 = .ok (.ireturn, 1) := by decide +kernel
theorem i_M_version_0 : decode m_M_version.2.1 0 = .ok (.aload_n 0, 1) := by decide +kernel
theorem i_M_version_1 : qInv m_M_version 1 m_M_isDown 5 0 := ⟨195, _, by decide +kernel, rfl, rfl, wd_990, wd_992, ws_35, by decide +kernel⟩
theorem i_M_version_4 : decode m_M_version.2.1 4 = .ok (.ifCond .eq 7, 3) := by decide +kernel
theorem i_M_version_7 : decode m_M_version.2.1 7 = .ok (.iconst 0, 1) := by decide +kernel
theorem i_M_version_8 : decode m_M_version.2.1 8 = .ok (.goto 7, 3) := by decide +kernel
theorem i_M_version_11 : decode m_M_version.2.1 11 = .ok (.aload_n 0, 1) := by decide +kernel
theorem i_M_version_12 : qGet m_M_version 12 5 12 := ⟨145, _, by decide +kernel, rfl, by decide, rfl, Or.inl wd_793⟩
theorem i_M_version_15 : decode m_M_version.2.1 15 = .ok (.ireturn, 1) := by decide +kernel
theorem i_M_isVersion_0 : decode m_M_isVersion.2.1 0 = .ok (.iload_n 1, 1) := by decide +kernel
theorem i_M_isVersion_1 : decode m_M_isVersion.2.1 1 = .ok (.ifCond .lt 15, 3) := by decide +kernel
theorem i_M_isVersion_4 : decode m_M_isVersion.2.1 4 = .ok (.iload_n 1, 1) := by decide +kernel
theorem i_M_isVersion_5 : decode m_M_isVersion.2.1 5 = .ok (.aload_n 0, 1) := by decide +kernel
theorem i_M_isVersion_6 : qGet m_M_isVersion 6 5 12 := ⟨145, _, by decide +kernel, rfl, by decide, rfl, Or.inl wd_793⟩
theorem i_M_isVersion_9 : decode m_M_isVersion.2.1 9 = .ok (.if_icmp .gt 7, 3) := by decide +kernel
theorem i_M_isVersion_12 : decode m_M_isVersion.2.1 12 = .ok (.iconst 1, 1) := by decide +kernel
theorem i_M_isVersion_13 : decode m_M_isVersion.2.1 13 = .ok (.goto 4, 3) := by decide +kernel
theorem i_M_isVersion_16 : decode m_M_isVersion.2.1 16 = .ok (.iconst 0, 1) := by decide +kernel
theorem i_M_isVersion_17 : decode m_M_isVersion.2.1 17 = .ok (.ireturn, 1) := by decide +kernel
theorem i_M_has_0 : decode m_M_has.2.1 0 = .ok (.aload_n 0, 1) := by decide +kernel
theorem i_M_has_1 : decode m_M_has.2.1 1 = .ok (.aload_n 0, 1) := by decide +kernel
theorem i_M_has_2 : qGet m_M_has 2 5 25 := ⟨116, _, by decide +kernel, rfl, by decide, rfl, Or.inl wd_806⟩
theorem i_M_has_5 : decode m_M_has.2.1 5 = .ok (.aload_n 0, 1) := by decide +kernel
theorem i_M_has_6 : decode m_M_has.2.1 6 = .ok (.iload_n 1, 1) := by decide +kernel
theorem i_M_has_7 : qInv m_M_has 7 m_M_isVersion 5 1 := ⟨198, _, by decide +kernel, rfl, rfl, wd_998, wd_1000, ws_36, by decide +kernel⟩
theorem i_M_has_10 : decode m_M_has.2.1 10 = .ok (.ifCond .ne 7, 3) := by decide +kernel
theorem i_M_has_13 : decode m_M_has.2.1 13 = .ok (.iconst 1, 1) := by decide +kernel
theorem i_M_has_14 : decode m_M_has.2.1 14 = .ok (.goto 4, 3) := by decide +kernel
theorem i_M_has_17 : decode m_M_has.2.1 17 = .ok (.iconst 0, 1) := by decide +kernel
theorem i_M_has_18 : decode m_M_has.2.1 18 = .ok (.iconst 0, 1) := by decide +kernel
theorem i_M_has_19 : decode m_M_has.2.1 19 = .ok (.iconst 0, 1) := by decide +kernel
theorem i_M_has_20 : qInv m_M_has 20 m_M_fails 5 4 := ⟨120, _, by decide +kernel, rfl, rfl, wd_926, wd_928, ws_21, by decide +kernel⟩
theorem i_M_has_23 : decode m_M_has.2.1 23 = .ok (.ifCond .ne 16, 3) := by decide +kernel
theorem i_M_has_26 : decode m_M_has.2.1 26 = .ok (.aload_n 0, 1) := by decide +kernel
theorem i_M_has_27 : decode m_M_has.2.1 27 = .ok (.iload_n 1, 1) := by decide +kernel
theorem i_M_has_28 : decode m_M_has.2.1 28 = .ok (.iload_n 2, 1) := by decide +kernel
theorem i_M_has_29 : qInv m_M_has 29 m_M_leafEntry 5 2 := ⟨148, _, by decide +kernel, rfl, rfl, wd_942, wd_944, ws_25, by decide +kernel⟩
theorem i_M_has_32 : decode m_M_has.2.1 32 = .ok (.ifCond .lt 7, 3) := by decide +kernel
theorem i_M_has_35 : decode m_M_has.2.1 35 = .ok (.iconst 1, 1) := by decide +kernel
theorem i_M_has_36 : decode m_M_has.2.1 36 = .ok (.goto 4, 3) := by decide +kernel
theorem i_M_has_39 : decode m_M_has.2.1 39 = .ok (.iconst 0, 1) := by decide +kernel
theorem i_M_has_40 : decode m_M_has.2.1 40 = .ok (.ireturn, 1) := by decide +kernel
theorem i_M_get_0 : decode m_M_get.2.1 0 = .ok (.aload_n 0, 1) := by decide +kernel
theorem i_M_get_1 : qGet m_M_get 1 5 25 := ⟨116, _, by decide +kernel, rfl, by decide, rfl, Or.inl wd_806⟩
theorem i_M_get_4 : decode m_M_get.2.1 4 = .ok (.ifCond .ne 24, 3) := by decide +kernel
theorem i_M_get_7 : decode m_M_get.2.1 7 = .ok (.aload_n 0, 1) := by decide +kernel
theorem i_M_get_8 : decode m_M_get.2.1 8 = .ok (.iload_n 1, 1) := by decide +kernel
theorem i_M_get_9 : qInv m_M_get 9 m_M_isVersion 5 1 := ⟨198, _, by decide +kernel, rfl, rfl, wd_998, wd_1000, ws_36, by decide +kernel⟩
theorem i_M_get_12 : decode m_M_get.2.1 12 = .ok (.ifCond .eq 16, 3) := by decide +kernel
theorem i_M_get_15 : decode m_M_get.2.1 15 = .ok (.aload_n 0, 1) := by decide +kernel
theorem i_M_get_16 : decode m_M_get.2.1 16 = .ok (.iload_n 1, 1) := by decide +kernel
theorem i_M_get_17 : decode m_M_get.2.1 17 = .ok (.iload_n 2, 1) := by decide +kernel
theorem i_M_get_18 : qInv m_M_get 18 m_M_leafEntry 5 2 := ⟨148, _, by decide +kernel, rfl, rfl, wd_942, wd_944, ws_25, by decide +kernel⟩
theorem i_M_get_21 : decode m_M_get.2.1 21 = .ok (.ifCond .lt 7, 3) := by decide +kernel
theorem i_M_get_24 : decode m_M_get.2.1 24 = .ok (.iconst 1, 1) := by decide +kernel
theorem i_M_get_25 : decode m_M_get.2.1 25 = .ok (.goto 4, 3) := by decide +kernel
theorem i_M_get_28 : decode m_M_get.2.1 28 = .ok (.iconst 0, 1) := by decide +kernel
theorem i_M_get_29 : decode m_M_get.2.1 29 = .ok (.istore_n 3, 1) := by decide +kernel
theorem i_M_get_30 : decode m_M_get.2.1 30 = .ok (.aload_n 0, 1) := by decide +kernel
theorem i_M_get_31 : decode m_M_get.2.1 31 = .ok (.aload_n 0, 1) := by decide +kernel
theorem i_M_get_32 : qGet m_M_get 32 5 25 := ⟨116, _, by decide +kernel, rfl, by decide, rfl, Or.inl wd_806⟩
theorem i_M_get_35 : decode m_M_get.2.1 35 = .ok (.aload_n 0, 1) := by decide +kernel
theorem i_M_get_36 : decode m_M_get.2.1 36 = .ok (.iload_n 1, 1) := by decide +kernel
theorem i_M_get_37 : qInv m_M_get 37 m_M_isVersion 5 1 := ⟨198, _, by decide +kernel, rfl, rfl, wd_998, wd_1000, ws_36, by decide +kernel⟩
theorem i_M_get_40 : decode m_M_get.2.1 40 = .ok (.ifCond .ne 7, 3) := by decide +kernel
theorem i_M_get_43 : decode m_M_get.2.1 43 = .ok (.iconst 1, 1) := by decide +kernel
theorem i_M_get_44 : decode m_M_get.2.1 44 = .ok (.goto 4, 3) := by decide +kernel
theorem i_M_get_47 : decode m_M_get.2.1 47 = .ok (.iconst 0, 1) := by decide +kernel
theorem i_M_get_48 : decode m_M_get.2.1 48 = .ok (.iload_n 3, 1) := by decide +kernel
theorem i_M_get_49 : decode m_M_get.2.1 49 = .ok (.ifCond .ne 7, 3) := by decide +kernel
theorem i_M_get_52 : decode m_M_get.2.1 52 = .ok (.iconst 1, 1) := by decide +kernel
theorem i_M_get_53 : decode m_M_get.2.1 53 = .ok (.goto 4, 3) := by decide +kernel
theorem i_M_get_56 : decode m_M_get.2.1 56 = .ok (.iconst 0, 1) := by decide +kernel
theorem i_M_get_57 : decode m_M_get.2.1 57 = .ok (.iconst 0, 1) := by decide +kernel
theorem i_M_get_58 : qInv m_M_get 58 m_M_fails 5 4 := ⟨120, _, by decide +kernel, rfl, rfl, wd_926, wd_928, ws_21, by decide +kernel⟩
theorem i_M_get_61 : decode m_M_get.2.1 61 = .ok (.ifCond .eq 7, 3) := by decide +kernel
theorem i_M_get_64 : decode m_M_get.2.1 64 = .ok (.lconst 0, 1) := by decide +kernel
theorem i_M_get_65 : decode m_M_get.2.1 65 = .ok (.goto 14, 3) := by decide +kernel
theorem i_M_get_68 : decode m_M_get.2.1 68 = .ok (.aload_n 0, 1) := by decide +kernel
theorem i_M_get_69 : qGet m_M_get 69 5 9 := ⟨35, _, by decide +kernel, rfl, by decide, rfl, Or.inl wd_790⟩
theorem i_M_get_72 : decode m_M_get.2.1 72 = .ok (.aload_n 0, 1) := by decide +kernel
theorem i_M_get_73 : decode m_M_get.2.1 73 = .ok (.iload_n 1, 1) := by decide +kernel
theorem i_M_get_74 : decode m_M_get.2.1 74 = .ok (.iload_n 2, 1) := by decide +kernel
theorem i_M_get_75 : qInv m_M_get 75 m_M_leafEntry 5 2 := ⟨148, _, by decide +kernel, rfl, rfl, wd_942, wd_944, ws_25, by decide +kernel⟩
theorem i_M_get_78 : decode m_M_get.2.1 78 = .ok (.laload, 1) := by decide +kernel
theorem i_M_get_79 : decode m_M_get.2.1 79 = .ok (.lreturn, 1) := by decide +kernel
theorem i_M_leaves_0 : decode m_M_leaves.2.1 0 = .ok (.iconst 1, 1) := by decide +kernel
theorem i_M_leaves_1 : decode m_M_leaves.2.1 1 = .ok (.istore_n 2, 1) := by decide +kernel
theorem i_M_leaves_2 : decode m_M_leaves.2.1 2 = .ok (.aload_n 0, 1) := by decide +kernel
theorem i_M_leaves_3 : qGet m_M_leaves 3 5 42 := ⟨103, _, by decide +kernel, rfl, by decide, rfl, Or.inl wd_823⟩
theorem i_M_leaves_6 : decode m_M_leaves.2.1 6 = .ok (.iconst 0, 1) := by decide +kernel
theorem i_M_leaves_7 : decode m_M_leaves.2.1 7 = .ok (.aload_n 0, 1) := by decide +kernel
theorem i_M_leaves_8 : qGet m_M_leaves 8 5 14 := ⟨46, _, by decide +kernel, rfl, by decide, rfl, Or.inl wd_795⟩
theorem i_M_leaves_11 : decode m_M_leaves.2.1 11 = .ok (.iload_n 1, 1) := by decide +kernel
theorem i_M_leaves_12 : decode m_M_leaves.2.1 12 = .ok (.iaload, 1) := by decide +kernel
theorem i_M_leaves_13 : decode m_M_leaves.2.1 13 = .ok (.iastore, 1) := by decide +kernel
theorem i_M_leaves_14 : decode m_M_leaves.2.1 14 = .ok (.aload_n 0, 1) := by decide +kernel
theorem i_M_leaves_15 : qGet m_M_leaves 15 5 1 := ⟨7, _, by decide +kernel, rfl, by decide, rfl, Or.inl wd_782⟩
theorem i_M_leaves_18 : decode m_M_leaves.2.1 18 = .ok (.aload_n 0, 1) := by decide +kernel
theorem i_M_leaves_19 : qGet m_M_leaves 19 5 42 := ⟨103, _, by decide +kernel, rfl, by decide, rfl, Or.inl wd_823⟩
theorem i_M_leaves_22 : decode m_M_leaves.2.1 22 = .ok (.iconst 0, 1) := by decide +kernel
theorem i_M_leaves_23 : decode m_M_leaves.2.1 23 = .ok (.iaload, 1) := by decide +kernel
theorem i_M_leaves_24 : decode m_M_leaves.2.1 24 = .ok (.iaload, 1) := by decide +kernel
theorem i_M_leaves_25 : decode m_M_leaves.2.1 25 = .ok (.ifCond .le 116, 3) := by decide +kernel
theorem i_M_leaves_28 : decode m_M_leaves.2.1 28 = .ok (.iconst 0, 1) := by decide +kernel
theorem i_M_leaves_29 : decode m_M_leaves.2.1 29 = .ok (.istore_n 3, 1) := by decide +kernel
theorem i_M_leaves_30 : decode m_M_leaves.2.1 30 = .ok (.iconst 0, 1) := by decide +kernel
theorem i_M_leaves_31 : decode m_M_leaves.2.1 31 = .ok (.istore 4, 2) := by decide +kernel
theorem i_M_leaves_33 : decode m_M_leaves.2.1 33 = .ok (.iload 4, 2) := by decide +kernel
theorem i_M_leaves_35 : decode m_M_leaves.2.1 35 = .ok (.iload_n 2, 1) := by decide +kernel
theorem i_M_leaves_36 : decode m_M_leaves.2.1 36 = .ok (.if_icmp .ge 71, 3) := by decide +kernel
theorem i_M_leaves_39 : decode m_M_leaves.2.1 39 = .ok (.aload_n 0, 1) := by decide +kernel
theorem i_M_leaves_40 : decode m_M_leaves.2.1 40 = .ok (.iconst 0, 1) := by decide +kernel
theorem i_M_leaves_41 : qPut m_M_leaves 41 5 33 := ⟨132, _, by decide +kernel, rfl, by decide, rfl, Or.inl rfl, Or.inl wd_814⟩
theorem i_M_leaves_44 : decode m_M_leaves.2.1 44 = .ok (.aload_n 0, 1) := by decide +kernel
theorem i_M_leaves_45 : decode m_M_leaves.2.1 45 = .ok (.iconst (-1), 1) := by decide +kernel
theorem i_M_leaves_46 : qPut m_M_leaves 46 5 28 := ⟨135, _, by decide +kernel, rfl, by decide, rfl, Or.inl rfl, Or.inl wd_809⟩
theorem i_M_leaves_49 : decode m_M_leaves.2.1 49 = .ok (.aload_n 0, 1) := by decide +kernel
theorem i_M_leaves_50 : decode m_M_leaves.2.1 50 = .ok (.iconst (-1), 1) := by decide +kernel
theorem i_M_leaves_51 : qPut m_M_leaves 51 5 29 := ⟨138, _, by decide +kernel, rfl, by decide, rfl, Or.inl rfl, Or.inl wd_810⟩
theorem i_M_leaves_54 : decode m_M_leaves.2.1 54 = .ok (.aload_n 0, 1) := by decide +kernel
theorem i_M_leaves_55 : decode m_M_leaves.2.1 55 = .ok (.aload_n 0, 1) := by decide +kernel
theorem i_M_leaves_56 : qGet m_M_leaves 56 5 42 := ⟨103, _, by decide +kernel, rfl, by decide, rfl, Or.inl wd_823⟩
theorem i_M_leaves_59 : decode m_M_leaves.2.1 59 = .ok (.iload 4, 2) := by decide +kernel
theorem i_M_leaves_61 : decode m_M_leaves.2.1 61 = .ok (.iaload, 1) := by decide +kernel
theorem i_M_leaves_62 : decode m_M_leaves.2.1 62 = .ok (.iload_n 1, 1) := by decide +kernel
theorem i_M_leaves_63 : qInv m_M_leaves 63 m_M_listAlive 5 2 := ⟨159, _, by decide +kernel, rfl, rfl, wd_950, wd_952, ws_27, by decide +kernel⟩
theorem i_M_leaves_66 : decode m_M_leaves.2.1 66 = .ok (.iconst 0, 1) := by decide +kernel
theorem i_M_leaves_67 : decode m_M_leaves.2.1 67 = .ok (.istore 5, 2) := by decide +kernel
theorem i_M_leaves_69 : decode m_M_leaves.2.1 69 = .ok (.iload 5, 2) := by decide +kernel
theorem i_M_leaves_71 : decode m_M_leaves.2.1 71 = .ok (.aload_n 0, 1) := by decide +kernel
theorem i_M_leaves_72 : qGet m_M_leaves 72 5 33 := ⟨132, _, by decide +kernel, rfl, by decide, rfl, Or.inl wd_814⟩
theorem i_M_leaves_75 : decode m_M_leaves.2.1 75 = .ok (.if_icmp .ge 26, 3) := by decide +kernel
theorem i_M_leaves_78 : decode m_M_leaves.2.1 78 = .ok (.aload_n 0, 1) := by decide +kernel
theorem i_M_leaves_79 : qGet m_M_leaves 79 5 43 := ⟨106, _, by decide +kernel, rfl, by decide, rfl, Or.inl wd_824⟩
theorem i_M_leaves_82 : decode m_M_leaves.2.1 82 = .ok (.iload_n 3, 1) := by decide +kernel
theorem i_M_leaves_83 : decode m_M_leaves.2.1 83 = .ok (.aload_n 0, 1) := by decide +kernel
theorem i_M_leaves_84 : qGet m_M_leaves 84 5 35 := ⟨85, _, by decide +kernel, rfl, by decide, rfl, Or.inl wd_816⟩
theorem i_M_leaves_87 : decode m_M_leaves.2.1 87 = .ok (.iload 5, 2) := by decide +kernel
theorem i_M_leaves_89 : decode m_M_leaves.2.1 89 = .ok (.laload, 1) := by decide +kernel
theorem i_M_leaves_90 : decode m_M_leaves.2.1 90 = .ok (.l2i, 1) := by decide +kernel
theorem i_M_leaves_91 : decode m_M_leaves.2.1 91 = .ok (.iastore, 1) := by decide +kernel
theorem i_M_leaves_92 : decode m_M_leaves.2.1 92 = .ok (.iinc 3 1, 3) := by decide +kernel
theorem i_M_leaves_95 : decode m_M_leaves.2.1 95 = .ok (.iinc 5 1, 3) := by decide +kernel
theorem i_M_leaves_98 : decode m_M_leaves.2.1 98 = .ok (.goto (-29), 3) := by decide +kernel
theorem i_M_leaves_101 : decode m_M_leaves.2.1 101 = .ok (.iinc 4 1, 3) := by decide +kernel
theorem i_M_leaves_104 : decode m_M_leaves.2.1 104 = .ok (.goto (-71), 3) := by decide +kernel
theorem i_M_leaves_107 : decode m_M_leaves.2.1 107 = .ok (.iload_n 3, 1) := by decide +kernel
theorem i_M_leaves_108 : decode m_M_leaves.2.1 108 = .ok (.istore_n 2, 1) := by decide +kernel
theorem i_M_leaves_109 : decode m_M_leaves.2.1 109 = .ok (.iconst 0, 1) := by decide +kernel
theorem i_M_leaves_110 : decode m_M_leaves.2.1 110 = .ok (.istore 4, 2) := by decide +kernel
theorem i_M_leaves_112 : decode m_M_leaves.2.1 112 = .ok (.iload 4, 2) := by decide +kernel
theorem i_M_leaves_114 : decode m_M_leaves.2.1 114 = .ok (.iload_n 2, 1) := by decide +kernel
theorem i_M_leaves_115 : decode m_M_leaves.2.1 115 = .ok (.if_icmp .ge 23, 3) := by decide +kernel
theorem i_M_leaves_118 : decode m_M_leaves.2.1 118 = .ok (.aload_n 0, 1) := by decide +kernel
theorem i_M_leaves_119 : qGet m_M_leaves 119 5 42 := ⟨103, _, by decide +kernel, rfl, by decide, rfl, Or.inl wd_823⟩
theorem i_M_leaves_122 : decode m_M_leaves.2.1 122 = .ok (.iload 4, 2) := by decide +kernel
theorem i_M_leaves_124 : decode m_M_leaves.2.1 124 = .ok (.aload_n 0, 1) := by decide +kernel
theorem i_M_leaves_125 : qGet m_M_leaves 125 5 43 := ⟨106, _, by decide +kernel, rfl, by decide, rfl, Or.inl wd_824⟩
theorem i_M_leaves_128 : decode m_M_leaves.2.1 128 = .ok (.iload 4, 2) := by decide +kernel
theorem i_M_leaves_130 : decode m_M_leaves.2.1 130 = .ok (.iaload, 1) := by decide +kernel
theorem i_M_leaves_131 : decode m_M_leaves.2.1 131 = .ok (.iastore, 1) := by decide +kernel
theorem i_M_leaves_132 : decode m_M_leaves.2.1 132 = .ok (.iinc 4 1, 3) := by decide +kernel
theorem i_M_leaves_135 : decode m_M_leaves.2.1 135 = .ok (.goto (-23), 3) := by decide +kernel
theorem i_M_leaves_138 : decode m_M_leaves.2.1 138 = .ok (.goto (-124), 3) := by decide +kernel
theorem i_M_leaves_141 : decode m_M_leaves.2.1 141 = .ok (.iload_n 2, 1) := by decide +kernel
theorem i_M_leaves_142 : decode m_M_leaves.2.1 142 = .ok (.ireturn, 1) := by decide +kernel
theorem i_M_collect_0 : decode m_M_collect.2.1 0 = .ok (.aload_n 0, 1) := by decide +kernel
theorem i_M_collect_1 : decode m_M_collect.2.1 1 = .ok (.iload_n 1, 1) := by decide +kernel
theorem i_M_collect_2 : qInv m_M_collect 2 m_M_leaves 5 1 := ⟨202, _, by decide +kernel, rfl, rfl, wd_1014, wd_1016, ws_38, by decide +kernel⟩
theorem i_M_collect_5 : decode m_M_collect.2.1 5 = .ok (.istore_n 2, 1) := by decide +kernel
theorem i_M_collect_6 : decode m_M_collect.2.1 6 = .ok (.aload_n 0, 1) := by decide +kernel
theorem i_M_collect_7 : decode m_M_collect.2.1 7 = .ok (.iconst 0, 1) := by decide +kernel
theorem i_M_collect_8 : qPut m_M_collect 8 5 39 := ⟨206, _, by decide +kernel, rfl, by decide, rfl, Or.inl rfl, Or.inl wd_820⟩
theorem i_M_collect_11 : decode m_M_collect.2.1 11 = .ok (.iconst 0, 1) := by decide +kernel
theorem i_M_collect_12 : decode m_M_collect.2.1 12 = .ok (.istore_n 3, 1) := by decide +kernel
theorem i_M_collect_13 : decode m_M_collect.2.1 13 = .ok (.iload_n 3, 1) := by decide +kernel
theorem i_M_collect_14 : decode m_M_collect.2.1 14 = .ok (.iload_n 2, 1) := by decide +kernel
theorem i_M_collect_15 : decode m_M_collect.2.1 15 = .ok (.if_icmp .ge 95, 3) := by decide +kernel
theorem i_M_collect_18 : decode m_M_collect.2.1 18 = .ok (.aload_n 0, 1) := by decide +kernel
theorem i_M_collect_19 : decode m_M_collect.2.1 19 = .ok (.iconst 0, 1) := by decide +kernel
theorem i_M_collect_20 : qPut m_M_collect 20 5 33 := ⟨132, _, by decide +kernel, rfl, by decide, rfl, Or.inl rfl, Or.inl wd_814⟩
theorem i_M_collect_23 : decode m_M_collect.2.1 23 = .ok (.aload_n 0, 1) := by decide +kernel
theorem i_M_collect_24 : decode m_M_collect.2.1 24 = .ok (.iconst (-1), 1) := by decide +kernel
theorem i_M_collect_25 : qPut m_M_collect 25 5 28 := ⟨135, _, by decide +kernel, rfl, by decide, rfl, Or.inl rfl, Or.inl wd_809⟩
theorem i_M_collect_28 : decode m_M_collect.2.1 28 = .ok (.aload_n 0, 1) := by decide +kernel
theorem i_M_collect_29 : decode m_M_collect.2.1 29 = .ok (.iconst (-1), 1) := by decide +kernel
theorem i_M_collect_30 : qPut m_M_collect 30 5 29 := ⟨138, _, by decide +kernel, rfl, by decide, rfl, Or.inl rfl, Or.inl wd_810⟩
theorem i_M_collect_33 : decode m_M_collect.2.1 33 = .ok (.aload_n 0, 1) := by decide +kernel
theorem i_M_collect_34 : decode m_M_collect.2.1 34 = .ok (.aload_n 0, 1) := by decide +kernel
theorem i_M_collect_35 : qGet m_M_collect 35 5 42 := ⟨103, _, by decide +kernel, rfl, by decide, rfl, Or.inl wd_823⟩
theorem i_M_collect_38 : decode m_M_collect.2.1 38 = .ok (.iload_n 3, 1) := by decide +kernel
theorem i_M_collect_39 : decode m_M_collect.2.1 39 = .ok (.iaload, 1) := by decide +kernel
theorem i_M_collect_40 : decode m_M_collect.2.1 40 = .ok (.iload_n 1, 1) := by decide +kernel
theorem i_M_collect_41 : qInv m_M_collect 41 m_M_listAlive 5 2 := ⟨159, _, by decide +kernel, rfl, rfl, wd_950, wd_952, ws_27, by decide +kernel⟩
theorem i_M_collect_44 : decode m_M_collect.2.1 44 = .ok (.iconst 0, 1) := by decide +kernel
theorem i_M_collect_45 : decode m_M_collect.2.1 45 = .ok (.istore 4, 2) := by decide +kernel
theorem i_M_collect_47 : decode m_M_collect.2.1 47 = .ok (.iload 4, 2) := by decide +kernel
theorem i_M_collect_49 : decode m_M_collect.2.1 49 = .ok (.aload_n 0, 1) := by decide +kernel
theorem i_M_collect_50 : qGet m_M_collect 50 5 33 := ⟨132, _, by decide +kernel, rfl, by decide, rfl, Or.inl wd_814⟩
theorem i_M_collect_53 : decode m_M_collect.2.1 53 = .ok (.if_icmp .ge 51, 3) := by decide +kernel
theorem i_M_collect_56 : decode m_M_collect.2.1 56 = .ok (.aload_n 0, 1) := by decide +kernel
theorem i_M_collect_57 : qGet m_M_collect 57 5 37 := ⟨91, _, by decide +kernel, rfl, by decide, rfl, Or.inl wd_818⟩
theorem i_M_collect_60 : decode m_M_collect.2.1 60 = .ok (.aload_n 0, 1) := by decide +kernel
theorem i_M_collect_61 : qGet m_M_collect 61 5 39 := ⟨206, _, by decide +kernel, rfl, by decide, rfl, Or.inl wd_820⟩
theorem i_M_collect_64 : decode m_M_collect.2.1 64 = .ok (.aload_n 0, 1) := by decide +kernel
theorem i_M_collect_65 : qGet m_M_collect 65 5 34 := ⟨82, _, by decide +kernel, rfl, by decide, rfl, Or.inl wd_815⟩
theorem i_M_collect_68 : decode m_M_collect.2.1 68 = .ok (.iload 4, 2) := by decide +kernel
theorem i_M_collect_70 : decode m_M_collect.2.1 70 = .ok (.iaload, 1) := by decide +kernel
theorem i_M_collect_71 : decode m_M_collect.2.1 71 = .ok (.iastore, 1) := by decide +kernel
theorem i_M_collect_72 : decode m_M_collect.2.1 72 = .ok (.aload_n 0, 1) := by decide +kernel
theorem i_M_collect_73 : qGet m_M_collect 73 5 38 := ⟨94, _, by decide +kernel, rfl, by decide, rfl, Or.inl wd_819⟩
theorem i_M_collect_76 : decode m_M_collect.2.1 76 = .ok (.aload_n 0, 1) := by decide +kernel
theorem i_M_collect_77 : qGet m_M_collect 77 5 39 := ⟨206, _, by decide +kernel, rfl, by decide, rfl, Or.inl wd_820⟩
theorem i_M_collect_80 : decode m_M_collect.2.1 80 = .ok (.aload_n 0, 1) := by decide +kernel
theorem i_M_collect_81 : qGet m_M_collect 81 5 35 := ⟨85, _, by decide +kernel, rfl, by decide, rfl, Or.inl wd_816⟩
theorem i_M_collect_84 : decode m_M_collect.2.1 84 = .ok (.iload 4, 2) := by decide +kernel
theorem i_M_collect_86 : decode m_M_collect.2.1 86 = .ok (.laload, 1) := by decide +kernel
theorem i_M_collect_87 : decode m_M_collect.2.1 87 = .ok (.lastore, 1) := by decide +kernel
theorem i_M_collect_88 : decode m_M_collect.2.1 88 = .ok (.aload_n 0, 1) := by decide +kernel
theorem i_M_collect_89 : decode m_M_collect.2.1 89 = .ok (.dup, 1) := by decide +kernel
theorem i_M_collect_90 : qGet m_M_collect 90 5 39 := ⟨206, _, by decide +kernel, rfl, by decide, rfl, Or.inl wd_820⟩
theorem i_M_collect_93 : decode m_M_collect.2.1 93 = .ok (.iconst 1, 1) := by decide +kernel
theorem i_M_collect_94 : decode m_M_collect.2.1 94 = .ok (.iadd, 1) := by decide +kernel
theorem i_M_collect_95 : qPut m_M_collect 95 5 39 := ⟨206, _, by decide +kernel, rfl, by decide, rfl, Or.inl rfl, Or.inl wd_820⟩
theorem i_M_collect_98 : decode m_M_collect.2.1 98 = .ok (.iinc 4 1, 3) := by decide +kernel
theorem i_M_collect_101 : decode m_M_collect.2.1 101 = .ok (.goto (-54), 3) := by decide +kernel
theorem i_M_collect_104 : decode m_M_collect.2.1 104 = .ok (.iinc 3 1, 3) := by decide +kernel
theorem i_M_collect_107 : decode m_M_collect.2.1 107 = .ok (.goto (-94), 3) := by decide +kernel
theorem i_M_collect_110 : decode m_M_collect.2.1 110 = .ok (.return_, 1) := by decide +kernel
theorem i_M_next_0 : decode m_M_next.2.1 0 = .ok (.aload_n 0, 1) := by decide +kernel
theorem i_M_next_1 : decode m_M_next.2.1 1 = .ok (.aload_n 0, 1) := by decide +kernel
theorem i_M_next_2 : qGet m_M_next 2 5 25 := ⟨116, _, by decide +kernel, rfl, by decide, rfl, Or.inl wd_806⟩
theorem i_M_next_5 : decode m_M_next.2.1 5 = .ok (.aload_n 0, 1) := by decide +kernel
theorem i_M_next_6 : decode m_M_next.2.1 6 = .ok (.iload_n 1, 1) := by decide +kernel
theorem i_M_next_7 : qInv m_M_next 7 m_M_isVersion 5 1 := ⟨198, _, by decide +kernel, rfl, rfl, wd_998, wd_1000, ws_36, by decide +kernel⟩
theorem i_M_next_10 : decode m_M_next.2.1 10 = .ok (.ifCond .ne 7, 3) := by decide +kernel
theorem i_M_next_13 : decode m_M_next.2.1 13 = .ok (.iconst 1, 1) := by decide +kernel
theorem i_M_next_14 : decode m_M_next.2.1 14 = .ok (.goto 4, 3) := by decide +kernel
theorem i_M_next_17 : decode m_M_next.2.1 17 = .ok (.iconst 0, 1) := by decide +kernel
theorem i_M_next_18 : decode m_M_next.2.1 18 = .ok (.iconst 0, 1) := by decide +kernel
theorem i_M_next_19 : decode m_M_next.2.1 19 = .ok (.iconst 0, 1) := by decide +kernel
theorem i_M_next_20 : qInv m_M_next 20 m_M_fails 5 4 := ⟨120, _, by decide +kernel, rfl, rfl, wd_926, wd_928, ws_21, by decide +kernel⟩
theorem i_M_next_23 : decode m_M_next.2.1 23 = .ok (.ifCond .eq 5, 3) := by decide +kernel
theorem i_M_next_26 : decode m_M_next.2.1 26 = .ok (.iconst 0, 1) := by decide +kernel
theorem i_M_next_27 : decode m_M_next.2.1 27 = .ok (.ireturn, 1) := by decide +kernel
theorem i_M_next_28 : decode m_M_next.2.1 28 = .ok (.aload_n 0, 1) := by decide +kernel
theorem i_M_next_29 : decode m_M_next.2.1 29 = .ok (.iload_n 1, 1) := by decide +kernel
theorem i_M_next_30 : qInv m_M_next 30 m_M_collect 5 1 := ⟨209, _, by decide +kernel, rfl, rfl, wd_1010, wd_1012, ws_37, by decide +kernel⟩
theorem i_M_next_33 : decode m_M_next.2.1 33 = .ok (.iconst 0, 1) := by decide +kernel
theorem i_M_next_34 : decode m_M_next.2.1 34 = .ok (.istore_n 3, 1) := by decide +kernel
theorem i_M_next_35 : decode m_M_next.2.1 35 = .ok (.iload_n 3, 1) := by decide +kernel
theorem i_M_next_36 : decode m_M_next.2.1 36 = .ok (.aload_n 0, 1) := by decide +kernel
theorem i_M_next_37 : qGet m_M_next 37 5 39 := ⟨206, _, by decide +kernel, rfl, by decide, rfl, Or.inl wd_820⟩
theorem i_M_next_40 : decode m_M_next.2.1 40 = .ok (.if_icmp .ge 19, 3) := by decide +kernel
theorem i_M_next_43 : decode m_M_next.2.1 43 = .ok (.aload_n 0, 1) := by decide +kernel
theorem i_M_next_44 : qGet m_M_next 44 5 37 := ⟨91, _, by decide +kernel, rfl, by decide, rfl, Or.inl wd_818⟩
theorem i_M_next_47 : decode m_M_next.2.1 47 = .ok (.iload_n 3, 1) := by decide +kernel
theorem i_M_next_48 : decode m_M_next.2.1 48 = .ok (.iaload, 1) := by decide +kernel
theorem i_M_next_49 : decode m_M_next.2.1 49 = .ok (.iload_n 2, 1) := by decide +kernel
theorem i_M_next_50 : decode m_M_next.2.1 50 = .ok (.if_icmp .ge 9, 3) := by decide +kernel
theorem i_M_next_53 : decode m_M_next.2.1 53 = .ok (.iinc 3 1, 3) := by decide +kernel
theorem i_M_next_56 : decode m_M_next.2.1 56 = .ok (.goto (-21), 3) := by decide +kernel
theorem i_M_next_59 : decode m_M_next.2.1 59 = .ok (.aload_n 0, 1) := by decide +kernel
theorem i_M_next_60 : decode m_M_next.2.1 60 = .ok (.iconst 0, 1) := by decide +kernel
theorem i_M_next_61 : decode m_M_next.2.1 61 = .ok (.iconst 0, 1) := by decide +kernel
theorem i_M_next_62 : decode m_M_next.2.1 62 = .ok (.iload_n 3, 1) := by decide +kernel
theorem i_M_next_63 : decode m_M_next.2.1 63 = .ok (.aload_n 0, 1) := by decide +kernel
theorem i_M_next_64 : qGet m_M_next 64 5 39 := ⟨206, _, by decide +kernel, rfl, by decide, rfl, Or.inl wd_820⟩
theorem i_M_next_67 : decode m_M_next.2.1 67 = .ok (.if_icmp .ne 7, 3) := by decide +kernel
theorem i_M_next_70 : decode m_M_next.2.1 70 = .ok (.iconst 1, 1) := by decide +kernel
theorem i_M_next_71 : decode m_M_next.2.1 71 = .ok (.goto 4, 3) := by decide +kernel
theorem i_M_next_74 : decode m_M_next.2.1 74 = .ok (.iconst 0, 1) := by decide +kernel
theorem i_M_next_75 : decode m_M_next.2.1 75 = .ok (.iconst 0, 1) := by decide +kernel
theorem i_M_next_76 : qInv m_M_next 76 m_M_fails 5 4 := ⟨120, _, by decide +kernel, rfl, rfl, wd_926, wd_928, ws_21, by decide +kernel⟩
theorem i_M_next_79 : decode m_M_next.2.1 79 = .ok (.ifCond .eq 7, 3) := by decide +kernel
theorem i_M_next_82 : decode m_M_next.2.1 82 = .ok (.iconst 0, 1) := by decide +kernel
theorem i_M_next_83 : decode m_M_next.2.1 83 = .ok (.goto 9, 3) := by decide +kernel
theorem i_M_next_86 : decode m_M_next.2.1 86 = .ok (.aload_n 0, 1) := by decide +kernel
theorem i_M_next_87 : qGet m_M_next 87 5 37 := ⟨91, _, by decide +kernel, rfl, by decide, rfl, Or.inl wd_818⟩
theorem i_M_next_90 : decode m_M_next.2.1 90 = .ok (.iload_n 3, 1) := by decide +kernel
theorem i_M_next_91 : decode m_M_next.2.1 91 = .ok (.iaload, 1) := by decide +kernel
theorem i_M_next_92 : decode m_M_next.2.1 92 = .ok (.ireturn, 1) := by decide +kernel
theorem i_M_count_0 : decode m_M_count.2.1 0 = .ok (.aload_n 0, 1) := by decide +kernel
theorem i_M_count_1 : decode m_M_count.2.1 1 = .ok (.aload_n 0, 1) := by decide +kernel
theorem i_M_count_2 : qGet m_M_count 2 5 25 := ⟨116, _, by decide +kernel, rfl, by decide, rfl, Or.inl wd_806⟩
theorem i_M_count_5 : decode m_M_count.2.1 5 = .ok (.aload_n 0, 1) := by decide +kernel
theorem i_M_count_6 : decode m_M_count.2.1 6 = .ok (.iload_n 1, 1) := by decide +kernel
theorem i_M_count_7 : qInv m_M_count 7 m_M_isVersion 5 1 := ⟨198, _, by decide +kernel, rfl, rfl, wd_998, wd_1000, ws_36, by decide +kernel⟩
theorem i_M_count_10 : decode m_M_count.2.1 10 = .ok (.ifCond .ne 7, 3) := by decide +kernel
theorem i_M_count_13 : decode m_M_count.2.1 13 = .ok (.iconst 1, 1) := by decide +kernel
theorem i_M_count_14 : decode m_M_count.2.1 14 = .ok (.goto 4, 3) := by decide +kernel
theorem i_M_count_17 : decode m_M_count.2.1 17 = .ok (.iconst 0, 1) := by decide +kernel
theorem i_M_count_18 : decode m_M_count.2.1 18 = .ok (.iconst 0, 1) := by decide +kernel
theorem i_M_count_19 : decode m_M_count.2.1 19 = .ok (.iconst 0, 1) := by decide +kernel
theorem i_M_count_20 : qInv m_M_count 20 m_M_fails 5 4 := ⟨120, _, by decide +kernel, rfl, rfl, wd_926, wd_928, ws_21, by decide +kernel⟩
theorem i_M_count_23 : decode m_M_count.2.1 23 = .ok (.ifCond .eq 5, 3) := by decide +kernel
theorem i_M_count_26 : decode m_M_count.2.1 26 = .ok (.iconst 0, 1) := by decide +kernel
theorem i_M_count_27 : decode m_M_count.2.1 27 = .ok (.ireturn, 1) := by decide +kernel
theorem i_M_count_28 : decode m_M_count.2.1 28 = .ok (.aload_n 0, 1) := by decide +kernel
theorem i_M_count_29 : decode m_M_count.2.1 29 = .ok (.iload_n 1, 1) := by decide +kernel
theorem i_M_count_30 : qInv m_M_count 30 m_M_collect 5 1 := ⟨209, _, by decide +kernel, rfl, rfl, wd_1010, wd_1012, ws_37, by decide +kernel⟩
theorem i_M_count_33 : decode m_M_count.2.1 33 = .ok (.iconst 0, 1) := by decide +kernel
theorem i_M_count_34 : decode m_M_count.2.1 34 = .ok (.istore 4, 2) := by decide +kernel
theorem i_M_count_36 : decode m_M_count.2.1 36 = .ok (.iconst 0, 1) := by decide +kernel
theorem i_M_count_37 : decode m_M_count.2.1 37 = .ok (.istore 5, 2) := by decide +kernel
theorem i_M_count_39 : decode m_M_count.2.1 39 = .ok (.iload 5, 2) := by decide +kernel
theorem i_M_count_41 : decode m_M_count.2.1 41 = .ok (.aload_n 0, 1) := by decide +kernel
theorem i_M_count_42 : qGet m_M_count 42 5 39 := ⟨206, _, by decide +kernel, rfl, by decide, rfl, Or.inl wd_820⟩
theorem i_M_count_45 : decode m_M_count.2.1 45 = .ok (.if_icmp .ge 41, 3) := by decide +kernel
theorem i_M_count_48 : decode m_M_count.2.1 48 = .ok (.iload 4, 2) := by decide +kernel
theorem i_M_count_50 : decode m_M_count.2.1 50 = .ok (.aload_n 0, 1) := by decide +kernel
theorem i_M_count_51 : qGet m_M_count 51 5 37 := ⟨91, _, by decide +kernel, rfl, by decide, rfl, Or.inl wd_818⟩
theorem i_M_count_54 : decode m_M_count.2.1 54 = .ok (.iload 5, 2) := by decide +kernel
theorem i_M_count_56 : decode m_M_count.2.1 56 = .ok (.iaload, 1) := by decide +kernel
theorem i_M_count_57 : decode m_M_count.2.1 57 = .ok (.iload_n 2, 1) := by decide +kernel
theorem i_M_count_58 : decode m_M_count.2.1 58 = .ok (.if_icmp .lt 18, 3) := by decide +kernel
theorem i_M_count_61 : decode m_M_count.2.1 61 = .ok (.aload_n 0, 1) := by decide +kernel
theorem i_M_count_62 : qGet m_M_count 62 5 37 := ⟨91, _, by decide +kernel, rfl, by decide, rfl, Or.inl wd_818⟩
theorem i_M_count_65 : decode m_M_count.2.1 65 = .ok (.iload 5, 2) := by decide +kernel
theorem i_M_count_67 : decode m_M_count.2.1 67 = .ok (.iaload, 1) := by decide +kernel
theorem i_M_count_68 : decode m_M_count.2.1 68 = .ok (.iload_n 3, 1) := by decide +kernel
theorem i_M_count_69 : decode m_M_count.2.1 69 = .ok (.if_icmp .gt 7, 3) := by decide +kernel
theorem i_M_count_72 : decode m_M_count.2.1 72 = .ok (.iconst 1, 1) := by decide +kernel
theorem i_M_count_73 : decode m_M_count.2.1 73 = .ok (.goto 4, 3) := by decide +kernel
theorem i_M_count_76 : decode m_M_count.2.1 76 = .ok (.iconst 0, 1) := by decide +kernel
theorem i_M_count_77 : decode m_M_count.2.1 77 = .ok (.iadd, 1) := by decide +kernel
theorem i_M_count_78 : decode m_M_count.2.1 78 = .ok (.istore 4, 2) := by decide +kernel
theorem i_M_count_80 : decode m_M_count.2.1 80 = .ok (.iinc 5 1, 3) := by decide +kernel
theorem i_M_count_83 : decode m_M_count.2.1 83 = .ok (.goto (-44), 3) := by decide +kernel
theorem i_M_count_86 : decode m_M_count.2.1 86 = .ok (.iload 4, 2) := by decide +kernel
theorem i_M_count_88 : decode m_M_count.2.1 88 = .ok (.ireturn, 1) := by decide +kernel
theorem i_M_sum_0 : decode m_M_sum.2.1 0 = .ok (.aload_n 0, 1) := by decide +kernel
theorem i_M_sum_1 : decode m_M_sum.2.1 1 = .ok (.aload_n 0, 1) := by decide +kernel
theorem i_M_sum_2 : qGet m_M_sum 2 5 25 := ⟨116, _, by decide +kernel, rfl, by decide, rfl, Or.inl wd_806⟩
theorem i_M_sum_5 : decode m_M_sum.2.1 5 = .ok (.aload_n 0, 1) := by decide +kernel
theorem i_M_sum_6 : decode m_M_sum.2.1 6 = .ok (.iload_n 1, 1) := by decide +kernel
theorem i_M_sum_7 : qInv m_M_sum 7 m_M_isVersion 5 1 := ⟨198, _, by decide +kernel, rfl, rfl, wd_998, wd_1000, ws_36, by decide +kernel⟩
theorem i_M_sum_10 : decode m_M_sum.2.1 10 = .ok (.ifCond .ne 7, 3) := by decide +kernel
theorem i_M_sum_13 : decode m_M_sum.2.1 13 = .ok (.iconst 1, 1) := by decide +kernel
theorem i_M_sum_14 : decode m_M_sum.2.1 14 = .ok (.goto 4, 3) := by decide +kernel
theorem i_M_sum_17 : decode m_M_sum.2.1 17 = .ok (.iconst 0, 1) := by decide +kernel
theorem i_M_sum_18 : decode m_M_sum.2.1 18 = .ok (.iconst 0, 1) := by decide +kernel
theorem i_M_sum_19 : decode m_M_sum.2.1 19 = .ok (.iconst 0, 1) := by decide +kernel
theorem i_M_sum_20 : qInv m_M_sum 20 m_M_fails 5 4 := ⟨120, _, by decide +kernel, rfl, rfl, wd_926, wd_928, ws_21, by decide +kernel⟩
theorem i_M_sum_23 : decode m_M_sum.2.1 23 = .ok (.ifCond .eq 5, 3) := by decide +kernel
theorem i_M_sum_26 : decode m_M_sum.2.1 26 = .ok (.lconst 0, 1) := by decide +kernel
theorem i_M_sum_27 : decode m_M_sum.2.1 27 = .ok (.lreturn, 1) := by decide +kernel
theorem i_M_sum_28 : decode m_M_sum.2.1 28 = .ok (.aload_n 0, 1) := by decide +kernel
theorem i_M_sum_29 : decode m_M_sum.2.1 29 = .ok (.iload_n 1, 1) := by decide +kernel
theorem i_M_sum_30 : qInv m_M_sum 30 m_M_collect 5 1 := ⟨209, _, by decide +kernel, rfl, rfl, wd_1010, wd_1012, ws_37, by decide +kernel⟩
theorem i_M_sum_33 : decode m_M_sum.2.1 33 = .ok (.lconst 0, 1) := by decide +kernel
theorem i_M_sum_34 : decode m_M_sum.2.1 34 = .ok (.lstore 4, 2) := by decide +kernel
theorem i_M_sum_36 : decode m_M_sum.2.1 36 = .ok (.iconst 0, 1) := by decide +kernel
theorem i_M_sum_37 : decode m_M_sum.2.1 37 = .ok (.istore 6, 2) := by decide +kernel
theorem i_M_sum_39 : decode m_M_sum.2.1 39 = .ok (.iload 6, 2) := by decide +kernel
theorem i_M_sum_41 : decode m_M_sum.2.1 41 = .ok (.aload_n 0, 1) := by decide +kernel
theorem i_M_sum_42 : qGet m_M_sum 42 5 39 := ⟨206, _, by decide +kernel, rfl, by decide, rfl, Or.inl wd_820⟩
theorem i_M_sum_45 : decode m_M_sum.2.1 45 = .ok (.if_icmp .ge 47, 3) := by decide +kernel
theorem i_M_sum_48 : decode m_M_sum.2.1 48 = .ok (.lload 4, 2) := by decide +kernel
theorem i_M_sum_50 : decode m_M_sum.2.1 50 = .ok (.aload_n 0, 1) := by decide +kernel
theorem i_M_sum_51 : qGet m_M_sum 51 5 37 := ⟨91, _, by decide +kernel, rfl, by decide, rfl, Or.inl wd_818⟩
theorem i_M_sum_54 : decode m_M_sum.2.1 54 = .ok (.iload 6, 2) := by decide +kernel
theorem i_M_sum_56 : decode m_M_sum.2.1 56 = .ok (.iaload, 1) := by decide +kernel
theorem i_M_sum_57 : decode m_M_sum.2.1 57 = .ok (.iload_n 2, 1) := by decide +kernel
theorem i_M_sum_58 : decode m_M_sum.2.1 58 = .ok (.if_icmp .lt 24, 3) := by decide +kernel
theorem i_M_sum_61 : decode m_M_sum.2.1 61 = .ok (.aload_n 0, 1) := by decide +kernel
theorem i_M_sum_62 : qGet m_M_sum 62 5 37 := ⟨91, _, by decide +kernel, rfl, by decide, rfl, Or.inl wd_818⟩
theorem i_M_sum_65 : decode m_M_sum.2.1 65 = .ok (.iload 6, 2) := by decide +kernel
theorem i_M_sum_67 : decode m_M_sum.2.1 67 = .ok (.iaload, 1) := by decide +kernel
theorem i_M_sum_68 : decode m_M_sum.2.1 68 = .ok (.iload_n 3, 1) := by decide +kernel
theorem i_M_sum_69 : decode m_M_sum.2.1 69 = .ok (.if_icmp .gt 13, 3) := by decide +kernel
theorem i_M_sum_72 : decode m_M_sum.2.1 72 = .ok (.aload_n 0, 1) := by decide +kernel
theorem i_M_sum_73 : qGet m_M_sum 73 5 38 := ⟨94, _, by decide +kernel, rfl, by decide, rfl, Or.inl wd_819⟩
theorem i_M_sum_76 : decode m_M_sum.2.1 76 = .ok (.iload 6, 2) := by decide +kernel
theorem i_M_sum_78 : decode m_M_sum.2.1 78 = .ok (.laload, 1) := by decide +kernel
theorem i_M_sum_79 : decode m_M_sum.2.1 79 = .ok (.goto 4, 3) := by decide +kernel
theorem i_M_sum_82 : decode m_M_sum.2.1 82 = .ok (.lconst 0, 1) := by decide +kernel
theorem i_M_sum_83 : decode m_M_sum.2.1 83 = .ok (.ladd, 1) := by decide +kernel
theorem i_M_sum_84 : decode m_M_sum.2.1 84 = .ok (.lstore 4, 2) := by decide +kernel
theorem i_M_sum_86 : decode m_M_sum.2.1 86 = .ok (.iinc 6 1, 3) := by decide +kernel
theorem i_M_sum_89 : decode m_M_sum.2.1 89 = .ok (.goto (-50), 3) := by decide +kernel
theorem i_M_sum_92 : decode m_M_sum.2.1 92 = .ok (.lload 4, 2) := by decide +kernel
