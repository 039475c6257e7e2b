theorem i_M_init_0 : decode m_M_init.2.1 0 = .ok (.aload_n 0, 1) := by decide +kernel
theorem i_M_init_1 : qObj m_M_init 1 := ⟨1, by decide +kernel, wd_776⟩
theorem i_M_init_4 : decode m_M_init.2.1 4 = .ok (.aload_n 0, 1) := by decide +kernel
theorem i_M_init_5 : decode m_M_init.2.1 5 = .ok (.sipush 512, 3) := by decide +kernel
theorem i_M_init_8 : decode m_M_init.2.1 8 = .ok (.newarray .int, 2) := by decide +kernel
theorem i_M_init_10 : qPut m_M_init 10 5 1 := ⟨7, _, by decide +kernel, rfl, by decide, rfl, Or.inr ⟨rfl, rfl⟩, Or.inl wd_782⟩
theorem i_M_init_13 : decode m_M_init.2.1 13 = .ok (.aload_n 0, 1) := by decide +kernel
theorem i_M_init_14 : decode m_M_init.2.1 14 = .ok (.sipush 512, 3) := by decide +kernel
theorem i_M_init_17 : decode m_M_init.2.1 17 = .ok (.newarray .int, 2) := by decide +kernel
theorem i_M_init_19 : qPut m_M_init 19 5 2 := ⟨13, _, by decide +kernel, rfl, by decide, rfl, Or.inr ⟨rfl, rfl⟩, Or.inl wd_783⟩
theorem i_M_init_22 : decode m_M_init.2.1 22 = .ok (.aload_n 0, 1) := by decide +kernel
theorem i_M_init_23 : decode m_M_init.2.1 23 = .ok (.sipush 512, 3) := by decide +kernel
theorem i_M_init_26 : decode m_M_init.2.1 26 = .ok (.newarray .int, 2) := by decide +kernel
theorem i_M_init_28 : qPut m_M_init 28 5 3 := ⟨16, _, by decide +kernel, rfl, by decide, rfl, Or.inr ⟨rfl, rfl⟩, Or.inl wd_784⟩
theorem i_M_init_31 : decode m_M_init.2.1 31 = .ok (.aload_n 0, 1) := by decide +kernel
theorem i_M_init_32 : decode m_M_init.2.1 32 = .ok (.sipush 512, 3) := by decide +kernel
theorem i_M_init_35 : decode m_M_init.2.1 35 = .ok (.newarray .int, 2) := by decide +kernel
theorem i_M_init_37 : qPut m_M_init 37 5 4 := ⟨19, _, by decide +kernel, rfl, by decide, rfl, Or.inr ⟨rfl, rfl⟩, Or.inl wd_785⟩
theorem i_M_init_40 : decode m_M_init.2.1 40 = .ok (.aload_n 0, 1) := by decide +kernel
theorem i_M_init_41 : decode m_M_init.2.1 41 = .ok (.sipush 256, 3) := by decide +kernel
theorem i_M_init_44 : decode m_M_init.2.1 44 = .ok (.newarray .boolean, 2) := by decide +kernel
theorem i_M_init_46 : qPut m_M_init 46 5 5 := ⟨22, _, by decide +kernel, rfl, by decide, rfl, Or.inr ⟨rfl, rfl⟩, Or.inl wd_786⟩
theorem i_M_init_49 : decode m_M_init.2.1 49 = .ok (.aload_n 0, 1) := by decide +kernel
theorem i_M_init_50 : decode m_M_init.2.1 50 = .ok (.sipush 8192, 3) := by decide +kernel
theorem i_M_init_53 : decode m_M_init.2.1 53 = .ok (.newarray .int, 2) := by decide +kernel
theorem i_M_init_55 : qPut m_M_init 55 5 6 := ⟨26, _, by decide +kernel, rfl, by decide, rfl, Or.inr ⟨rfl, rfl⟩, Or.inl wd_787⟩
theorem i_M_init_58 : decode m_M_init.2.1 58 = .ok (.aload_n 0, 1) := by decide +kernel
theorem i_M_init_59 : decode m_M_init.2.1 59 = .ok (.sipush 8192, 3) := by decide +kernel
theorem i_M_init_62 : decode m_M_init.2.1 62 = .ok (.newarray .int, 2) := by decide +kernel
theorem i_M_init_64 : qPut m_M_init 64 5 7 := ⟨29, _, by decide +kernel, rfl, by decide, rfl, Or.inr ⟨rfl, rfl⟩, Or.inl wd_788⟩
theorem i_M_init_67 : decode m_M_init.2.1 67 = .ok (.aload_n 0, 1) := by decide +kernel
theorem i_M_init_68 : decode m_M_init.2.1 68 = .ok (.sipush 8192, 3) := by decide +kernel
theorem i_M_init_71 : decode m_M_init.2.1 71 = .ok (.newarray .int, 2) := by decide +kernel
theorem i_M_init_73 : qPut m_M_init 73 5 8 := ⟨32, _, by decide +kernel, rfl, by decide, rfl, Or.inr ⟨rfl, rfl⟩, Or.inl wd_789⟩
theorem i_M_init_76 : decode m_M_init.2.1 76 = .ok (.aload_n 0, 1) := by decide +kernel
theorem i_M_init_77 : decode m_M_init.2.1 77 = .ok (.sipush 8192, 3) := by decide +kernel
theorem i_M_init_80 : decode m_M_init.2.1 80 = .ok (.newarray .long, 2) := by decide +kernel
theorem i_M_init_82 : qPut m_M_init 82 5 9 := ⟨35, _, by decide +kernel, rfl, by decide, rfl, Or.inr ⟨rfl, rfl⟩, Or.inl wd_790⟩
theorem i_M_init_85 : decode m_M_init.2.1 85 = .ok (.aload_n 0, 1) := by decide +kernel
theorem i_M_init_86 : decode m_M_init.2.1 86 = .ok (.iconst 1, 1) := by decide +kernel
theorem i_M_init_87 : qPut m_M_init 87 5 10 := ⟨39, _, by decide +kernel, rfl, by decide, rfl, Or.inl rfl, Or.inl wd_791⟩
theorem i_M_init_90 : decode m_M_init.2.1 90 = .ok (.aload_n 0, 1) := by decide +kernel
theorem i_M_init_91 : decode m_M_init.2.1 91 = .ok (.iconst 1, 1) := by decide +kernel
theorem i_M_init_92 : qPut m_M_init 92 5 11 := ⟨43, _, by decide +kernel, rfl, by decide, rfl, Or.inl rfl, Or.inl wd_792⟩
theorem i_M_init_95 : decode m_M_init.2.1 95 = .ok (.aload_n 0, 1) := by decide +kernel
theorem i_M_init_96 : decode m_M_init.2.1 96 = .ok (.sipush 5000, 3) := by decide +kernel
theorem i_M_init_99 : decode m_M_init.2.1 99 = .ok (.newarray .int, 2) := by decide +kernel
theorem i_M_init_101 : qPut m_M_init 101 5 14 := ⟨46, _, by decide +kernel, rfl, by decide, rfl, Or.inr ⟨rfl, rfl⟩, Or.inl wd_795⟩
theorem i_M_init_104 : decode m_M_init.2.1 104 = .ok (.aload_n 0, 1) := by decide +kernel
theorem i_M_init_105 : decode m_M_init.2.1 105 = .ok (.bipush 40, 2) := by decide +kernel
theorem i_M_init_107 : decode m_M_init.2.1 107 = .ok (.newarray .int, 2) := by decide +kernel
theorem i_M_init_109 : qPut m_M_init 109 5 15 := ⟨49, _, by decide +kernel, rfl, by decide, rfl, Or.inr ⟨rfl, rfl⟩, Or.inl wd_796⟩
theorem i_M_init_112 : decode m_M_init.2.1 112 = .ok (.aload_n 0, 1) := by decide +kernel
theorem i_M_init_113 : decode m_M_init.2.1 113 = .ok (.bipush 40, 2) := by decide +kernel
theorem i_M_init_115 : decode m_M_init.2.1 115 = .ok (.newarray .boolean, 2) := by decide +kernel
theorem i_M_init_117 : qPut m_M_init 117 5 16 := ⟨52, _, by decide +kernel, rfl, by decide, rfl, Or.inr ⟨rfl, rfl⟩, Or.inl wd_797⟩
theorem i_M_init_120 : decode m_M_init.2.1 120 = .ok (.aload_n 0, 1) := by decide +kernel
theorem i_M_init_121 : decode m_M_init.2.1 121 = .ok (.sipush 160, 3) := by decide +kernel
theorem i_M_init_124 : decode m_M_init.2.1 124 = .ok (.newarray .boolean, 2) := by decide +kernel
theorem i_M_init_126 : qPut m_M_init 126 5 17 := ⟨55, _, by decide +kernel, rfl, by decide, rfl, Or.inr ⟨rfl, rfl⟩, Or.inl wd_798⟩
theorem i_M_init_129 : decode m_M_init.2.1 129 = .ok (.aload_n 0, 1) := by decide +kernel
theorem i_M_init_130 : decode m_M_init.2.1 130 = .ok (.sipush 160, 3) := by decide +kernel
theorem i_M_init_133 : decode m_M_init.2.1 133 = .ok (.newarray .int, 2) := by decide +kernel
theorem i_M_init_135 : qPut m_M_init 135 5 18 := ⟨58, _, by decide +kernel, rfl, by decide, rfl, Or.inr ⟨rfl, rfl⟩, Or.inl wd_799⟩
theorem i_M_init_138 : decode m_M_init.2.1 138 = .ok (.aload_n 0, 1) := by decide +kernel
theorem i_M_init_139 : decode m_M_init.2.1 139 = .ok (.sipush 160, 3) := by decide +kernel
theorem i_M_init_142 : decode m_M_init.2.1 142 = .ok (.newarray .long, 2) := by decide +kernel
theorem i_M_init_144 : qPut m_M_init 144 5 19 := ⟨61, _, by decide +kernel, rfl, by decide, rfl, Or.inr ⟨rfl, rfl⟩, Or.inl wd_800⟩
theorem i_M_init_147 : decode m_M_init.2.1 147 = .ok (.aload_n 0, 1) := by decide +kernel
theorem i_M_init_148 : decode m_M_init.2.1 148 = .ok (.sipush 5000, 3) := by decide +kernel
theorem i_M_init_151 : decode m_M_init.2.1 151 = .ok (.newarray .boolean, 2) := by decide +kernel
theorem i_M_init_153 : qPut m_M_init 153 5 22 := ⟨64, _, by decide +kernel, rfl, by decide, rfl, Or.inr ⟨rfl, rfl⟩, Or.inl wd_803⟩
theorem i_M_init_156 : decode m_M_init.2.1 156 = .ok (.aload_n 0, 1) := by decide +kernel
theorem i_M_init_157 : decode m_M_init.2.1 157 = .ok (.sipush 5000, 3) := by decide +kernel
theorem i_M_init_160 : decode m_M_init.2.1 160 = .ok (.newarray .int, 2) := by decide +kernel
theorem i_M_init_162 : qPut m_M_init 162 5 23 := ⟨67, _, by decide +kernel, rfl, by decide, rfl, Or.inr ⟨rfl, rfl⟩, Or.inl wd_804⟩
theorem i_M_init_165 : decode m_M_init.2.1 165 = .ok (.aload_n 0, 1) := by decide +kernel
theorem i_M_init_166 : decode m_M_init.2.1 166 = .ok (.sipush 5000, 3) := by decide +kernel
theorem i_M_init_169 : decode m_M_init.2.1 169 = .ok (.newarray .long, 2) := by decide +kernel
theorem i_M_init_171 : qPut m_M_init 171 5 24 := ⟨70, _, by decide +kernel, rfl, by decide, rfl, Or.inr ⟨rfl, rfl⟩, Or.inl wd_805⟩
theorem i_M_init_174 : decode m_M_init.2.1 174 = .ok (.aload_n 0, 1) := by decide +kernel
theorem i_M_init_175 : decode m_M_init.2.1 175 = .ok (.iconst (-1), 1) := by decide +kernel
theorem i_M_init_176 : qPut m_M_init 176 5 26 := ⟨73, _, by decide +kernel, rfl, by decide, rfl, Or.inl rfl, Or.inl wd_807⟩
theorem i_M_init_179 : decode m_M_init.2.1 179 = .ok (.aload_n 0, 1) := by decide +kernel
theorem i_M_init_180 : decode m_M_init.2.1 180 = .ok (.iconst 2, 1) := by decide +kernel
theorem i_M_init_181 : decode m_M_init.2.1 181 = .ok (.newarray .int, 2) := by decide +kernel
theorem i_M_init_183 : qPut m_M_init 183 5 31 := ⟨76, _, by decide +kernel, rfl, by decide, rfl, Or.inr ⟨rfl, rfl⟩, Or.inl wd_812⟩
theorem i_M_init_186 : decode m_M_init.2.1 186 = .ok (.aload_n 0, 1) := by decide +kernel
theorem i_M_init_187 : decode m_M_init.2.1 187 = .ok (.iconst 2, 1) := by decide +kernel
theorem i_M_init_188 : decode m_M_init.2.1 188 = .ok (.newarray .long, 2) := by decide +kernel
theorem i_M_init_190 : qPut m_M_init 190 5 32 := ⟨79, _, by decide +kernel, rfl, by decide, rfl, Or.inr ⟨rfl, rfl⟩, Or.inl wd_813⟩
theorem i_M_init_193 : decode m_M_init.2.1 193 = .ok (.aload_n 0, 1) := by decide +kernel
theorem i_M_init_194 : decode m_M_init.2.1 194 = .ok (.bipush 40, 2) := by decide +kernel
theorem i_M_init_196 : decode m_M_init.2.1 196 = .ok (.newarray .int, 2) := by decide +kernel
theorem i_M_init_198 : qPut m_M_init 198 5 34 := ⟨82, _, by decide +kernel, rfl, by decide, rfl, Or.inr ⟨rfl, rfl⟩, Or.inl wd_815⟩
theorem i_M_init_201 : decode m_M_init.2.1 201 = .ok (.aload_n 0, 1) := by decide +kernel
theorem i_M_init_202 : decode m_M_init.2.1 202 = .ok (.bipush 40, 2) := by decide +kernel
theorem i_M_init_204 : decode m_M_init.2.1 204 = .ok (.newarray .long, 2) := by decide +kernel
theorem i_M_init_206 : qPut m_M_init 206 5 35 := ⟨85, _, by decide +kernel, rfl, by decide, rfl, Or.inr ⟨rfl, rfl⟩, Or.inl wd_816⟩
theorem i_M_init_209 : decode m_M_init.2.1 209 = .ok (.aload_n 0, 1) := by decide +kernel
theorem i_M_init_210 : decode m_M_init.2.1 210 = .ok (.bipush 40, 2) := by decide +kernel
theorem i_M_init_212 : decode m_M_init.2.1 212 = .ok (.newarray .int, 2) := by decide +kernel
theorem i_M_init_214 : qPut m_M_init 214 5 36 := ⟨88, _, by decide +kernel, rfl, by decide, rfl, Or.inr ⟨rfl, rfl⟩, Or.inl wd_817⟩
theorem i_M_init_217 : decode m_M_init.2.1 217 = .ok (.aload_n 0, 1) := by decide +kernel
theorem i_M_init_218 : decode m_M_init.2.1 218 = .ok (.sipush 4200, 3) := by decide +kernel
theorem i_M_init_221 : decode m_M_init.2.1 221 = .ok (.newarray .int, 2) := by decide +kernel
theorem i_M_init_223 : qPut m_M_init 223 5 37 := ⟨91, _, by decide +kernel, rfl, by decide, rfl, Or.inr ⟨rfl, rfl⟩, Or.inl wd_818⟩
theorem i_M_init_226 : decode m_M_init.2.1 226 = .ok (.aload_n 0, 1) := by decide +kernel
theorem i_M_init_227 : decode m_M_init.2.1 227 = .ok (.sipush 4200, 3) := by decide +kernel
theorem i_M_init_230 : decode m_M_init.2.1 230 = .ok (.newarray .long, 2) := by decide +kernel
theorem i_M_init_232 : qPut m_M_init 232 5 38 := ⟨94, _, by decide +kernel, rfl, by decide, rfl, Or.inr ⟨rfl, rfl⟩, Or.inl wd_819⟩
theorem i_M_init_235 : decode m_M_init.2.1 235 = .ok (.aload_n 0, 1) := by decide +kernel
theorem i_M_init_236 : decode m_M_init.2.1 236 = .ok (.sipush 4200, 3) := by decide +kernel
theorem i_M_init_239 : decode m_M_init.2.1 239 = .ok (.newarray .int, 2) := by decide +kernel
theorem i_M_init_241 : qPut m_M_init 241 5 40 := ⟨97, _, by decide +kernel, rfl, by decide, rfl, Or.inr ⟨rfl, rfl⟩, Or.inl wd_821⟩
theorem i_M_init_244 : decode m_M_init.2.1 244 = .ok (.aload_n 0, 1) := by decide +kernel
theorem i_M_init_245 : decode m_M_init.2.1 245 = .ok (.sipush 4200, 3) := by decide +kernel
theorem i_M_init_248 : decode m_M_init.2.1 248 = .ok (.newarray .long, 2) := by decide +kernel
theorem i_M_init_250 : qPut m_M_init 250 5 41 := ⟨100, _, by decide +kernel, rfl, by decide, rfl, Or.inr ⟨rfl, rfl⟩, Or.inl wd_822⟩
theorem i_M_init_253 : decode m_M_init.2.1 253 = .ok (.aload_n 0, 1) := by decide +kernel
theorem i_M_init_254 : decode m_M_init.2.1 254 = .ok (.sipush 4200, 3) := by decide +kernel
theorem i_M_init_257 : decode m_M_init.2.1 257 = .ok (.newarray .int, 2) := by decide +kernel
theorem i_M_init_259 : qPut m_M_init 259 5 42 := ⟨103, _, by decide +kernel, rfl, by decide, rfl, Or.inr ⟨rfl, rfl⟩, Or.inl wd_823⟩
theorem i_M_init_262 : decode m_M_init.2.1 262 = .ok (.aload_n 0, 1) := by decide +kernel
theorem i_M_init_263 : decode m_M_init.2.1 263 = .ok (.sipush 4200, 3) := by decide +kernel
theorem i_M_init_266 : decode m_M_init.2.1 266 = .ok (.newarray .int, 2) := by decide +kernel
theorem i_M_init_268 : qPut m_M_init 268 5 43 := ⟨106, _, by decide +kernel, rfl, by decide, rfl, Or.inr ⟨rfl, rfl⟩, Or.inl wd_824⟩
theorem i_M_init_271 : decode m_M_init.2.1 271 = .ok (.aload_n 0, 1) := by decide +kernel
theorem i_M_init_272 : qGet m_M_init 272 5 2 := ⟨13, _, by decide +kernel, rfl, by decide, rfl, Or.inl wd_783⟩
theorem i_M_init_275 : decode m_M_init.2.1 275 = .ok (.iconst 0, 1) := by decide +kernel
theorem i_M_init_276 : decode m_M_init.2.1 276 = .ok (.iconst 0, 1) := by decide +kernel
theorem i_M_init_277 : decode m_M_init.2.1 277 = .ok (.iastore, 1) := by decide +kernel
theorem i_M_init_278 : decode m_M_init.2.1 278 = .ok (.aload_n 0, 1) := by decide +kernel
theorem i_M_init_279 : qGet m_M_init 279 5 3 := ⟨16, _, by decide +kernel, rfl, by decide, rfl, Or.inl wd_784⟩
theorem i_M_init_282 : decode m_M_init.2.1 282 = .ok (.iconst 0, 1) := by decide +kernel
theorem i_M_init_283 : decode m_M_init.2.1 283 = .ok (.iconst (-1), 1) := by decide +kernel
theorem i_M_init_284 : decode m_M_init.2.1 284 = .ok (.iastore, 1) := by decide +kernel
theorem i_M_init_285 : decode m_M_init.2.1 285 = .ok (.aload_n 0, 1) := by decide +kernel
theorem i_M_init_286 : decode m_M_init.2.1 286 = .ok (.sipush 256, 3) := by decide +kernel
theorem i_M_init_289 : decode m_M_init.2.1 289 = .ok (.iconst 0, 1) := by decide +kernel
theorem i_M_init_290 : decode m_M_init.2.1 290 = .ok (.iconst 1, 1) := by decide +kernel
theorem i_M_init_291 : qInv m_M_init 291 m_M_copyPages 5 3 := ⟨109, _, by decide +kernel, rfl, rfl, wd_777, wd_779, ws_19, by decide +kernel⟩
theorem i_M_init_294 : decode m_M_init.2.1 294 = .ok (.return_, 1) := by decide +kernel
theorem i_M_thrown_0 : decode m_M_thrown.2.1 0 = .ok (.aload_n 0, 1) := by decide +kernel
theorem i_M_thrown_1 : qGet m_M_thrown 1 5 0 := ⟨113, _, by decide +kernel, rfl, by decide, rfl, Or.inl wd_781⟩
theorem i_M_thrown_4 : decode m_M_thrown.2.1 4 = .ok (.ireturn, 1) := by decide +kernel
theorem i_M_fails_0 : decode m_M_fails.2.1 0 = .ok (.aload_n 0, 1) := by decide +kernel
theorem i_M_fails_1 : decode m_M_fails.2.1 1 = .ok (.iload_n 1, 1) := by decide +kernel
theorem i_M_fails_2 : decode m_M_fails.2.1 2 = .ok (.ifCond .eq 7, 3) := by decide +kernel
theorem i_M_fails_5 : decode m_M_fails.2.1 5 = .ok (.iconst 1, 1) := by decide +kernel
theorem i_M_fails_6 : decode m_M_fails.2.1 6 = .ok (.goto 29, 3) := by decide +kernel
theorem i_M_fails_9 : decode m_M_fails.2.1 9 = .ok (.iload_n 2, 1) := by decide +kernel
theorem i_M_fails_10 : decode m_M_fails.2.1 10 = .ok (.ifCond .eq 7, 3) := by decide +kernel
theorem i_M_fails_13 : decode m_M_fails.2.1 13 = .ok (.iconst 2, 1) := by decide +kernel
theorem i_M_fails_14 : decode m_M_fails.2.1 14 = .ok (.goto 21, 3) := by decide +kernel
theorem i_M_fails_17 : decode m_M_fails.2.1 17 = .ok (.iload_n 3, 1) := by decide +kernel
theorem i_M_fails_18 : decode m_M_fails.2.1 18 = .ok (.ifCond .eq 7, 3) := by decide +kernel
theorem i_M_fails_21 : decode m_M_fails.2.1 21 = .ok (.iconst 3, 1) := by decide +kernel
theorem i_M_fails_22 : decode m_M_fails.2.1 22 = .ok (.goto 13, 3) := by decide +kernel
theorem i_M_fails_25 : decode m_M_fails.2.1 25 = .ok (.iload 4, 2) := by decide +kernel
theorem i_M_fails_27 : decode m_M_fails.2.1 27 = .ok (.ifCond .eq 7, 3) := by decide +kernel
theorem i_M_fails_30 : decode m_M_fails.2.1 30 = .ok (.iconst 4, 1) := by decide +kernel
theorem i_M_fails_31 : decode m_M_fails.2.1 31 = .ok (.goto 4, 3) := by decide +kernel
theorem i_M_fails_34 : decode m_M_fails.2.1 34 = .ok (.iconst 0, 1) := by decide +kernel
theorem i_M_fails_35 : qPut m_M_fails 35 5 0 := ⟨113, _, by decide +kernel, rfl, by decide, rfl, Or.inl rfl, Or.inl wd_781⟩
theorem i_M_fails_38 : decode m_M_fails.2.1 38 = .ok (.aload_n 0, 1) := by decide +kernel
theorem i_M_fails_39 : qGet m_M_fails 39 5 0 := ⟨113, _, by decide +kernel, rfl, by decide, rfl, Or.inl wd_781⟩
theorem i_M_fails_42 : decode m_M_fails.2.1 42 = .ok (.ifCond .le 7, 3) := by decide +kernel
theorem i_M_fails_45 : decode m_M_fails.2.1 45 = .ok (.iconst 1, 1) := by decide +kernel
theorem i_M_fails_46 : decode m_M_fails.2.1 46 = .ok (.goto 4, 3) := by decide +kernel
theorem i_M_fails_49 : decode m_M_fails.2.1 49 = .ok (.iconst 0, 1) := by decide +kernel
theorem i_M_fails_50 : decode m_M_fails.2.1 50 = .ok (.ireturn, 1) := by decide +kernel
theorem i_M_isDown_0 : decode m_M_isDown.2.1 0 = .ok (.aload_n 0, 1) := by decide +kernel
theorem i_M_isDown_1 : decode m_M_isDown.2.1 1 = .ok (.aload_n 0, 1) := by decide +kernel
theorem i_M_isDown_2 : qGet m_M_isDown 2 5 25 := ⟨116, _, by decide +kernel, rfl, by decide, rfl, Or.inl wd_806⟩
theorem i_M_isDown_5 : decode m_M_isDown.2.1 5 = .ok (.iconst 0, 1) := by decide +kernel
theorem i_M_isDown_6 : decode m_M_isDown.2.1 6 = .ok (.iconst 0, 1) := by decide +kernel
theorem i_M_isDown_7 : decode m_M_isDown.2.1 7 = .ok (.iconst 0, 1) := by decide +kernel
theorem i_M_isDown_8 : qInv m_M_isDown 8 m_M_fails 5 4 := ⟨120, _, by decide +kernel, rfl, rfl, wd_926, wd_928, ws_21, by decide +kernel⟩
theorem i_M_isDown_11 : decode m_M_isDown.2.1 11 = .ok (.ireturn, 1) := by decide +kernel
theorem i_M_copyPages_0 : decode m_M_copyPages.2.1 0 = .ok (.iconst 0, 1) := by decide +kernel
theorem i_M_copyPages_1 : decode m_M_copyPages.2.1 1 = .ok (.istore 4, 2) := by decide +kernel
theorem i_M_copyPages_3 : decode m_M_copyPages.2.1 3 = .ok (.iload 4, 2) := by decide +kernel
theorem i_M_copyPages_5 : decode m_M_copyPages.2.1 5 = .ok (.iload_n 3, 1) := by decide +kernel
theorem i_M_copyPages_6 : decode m_M_copyPages.2.1 6 = .ok (.if_icmp .ge 177, 3) := by decide +kernel
theorem i_M_copyPages_9 : decode m_M_copyPages.2.1 9 = .ok (.aload_n 0, 1) := by decide +kernel
theorem i_M_copyPages_10 : qGet m_M_copyPages 10 5 1 := ⟨7, _, by decide +kernel, rfl, by decide, rfl, Or.inl wd_782⟩
theorem i_M_copyPages_13 : decode m_M_copyPages.2.1 13 = .ok (.iload_n 1, 1) := by decide +kernel
theorem i_M_copyPages_14 : decode m_M_copyPages.2.1 14 = .ok (.iload 4, 2) := by decide +kernel
theorem i_M_copyPages_16 : decode m_M_copyPages.2.1 16 = .ok (.iadd, 1) := by decide +kernel
theorem i_M_copyPages_17 : decode m_M_copyPages.2.1 17 = .ok (.aload_n 0, 1) := by decide +kernel
theorem i_M_copyPages_18 : qGet m_M_copyPages 18 5 1 := ⟨7, _, by decide +kernel, rfl, by decide, rfl, Or.inl wd_782⟩
theorem i_M_copyPages_21 : decode m_M_copyPages.2.1 21 = .ok (.iload_n 2, 1) := by decide +kernel
theorem i_M_copyPages_22 : decode m_M_copyPages.2.1 22 = .ok (.iload 4, 2) := by decide +kernel
theorem i_M_copyPages_24 : decode m_M_copyPages.2.1 24 = .ok (.iadd, 1) := by decide +kernel
theorem i_M_copyPages_25 : decode m_M_copyPages.2.1 25 = .ok (.iaload, 1) := by decide +kernel
theorem i_M_copyPages_26 : decode m_M_copyPages.2.1 26 = .ok (.iastore, 1) := by decide +kernel
theorem i_M_copyPages_27 : decode m_M_copyPages.2.1 27 = .ok (.aload_n 0, 1) := by decide +kernel
theorem i_M_copyPages_28 : qGet m_M_copyPages 28 5 2 := ⟨13, _, by decide +kernel, rfl, by decide, rfl, Or.inl wd_783⟩
theorem i_M_copyPages_31 : decode m_M_copyPages.2.1 31 = .ok (.iload_n 1, 1) := by decide +kernel
theorem i_M_copyPages_32 : decode m_M_copyPages.2.1 32 = .ok (.iload 4, 2) := by decide +kernel
theorem i_M_copyPages_34 : decode m_M_copyPages.2.1 34 = .ok (.iadd, 1) := by decide +kernel
theorem i_M_copyPages_35 : decode m_M_copyPages.2.1 35 = .ok (.aload_n 0, 1) := by decide +kernel
theorem i_M_copyPages_36 : qGet m_M_copyPages 36 5 2 := ⟨13, _, by decide +kernel, rfl, by decide, rfl, Or.inl wd_783⟩
theorem i_M_copyPages_39 : decode m_M_copyPages.2.1 39 = .ok (.iload_n 2, 1) := by decide +kernel
theorem i_M_copyPages_40 : decode m_M_copyPages.2.1 40 = .ok (.iload 4, 2) := by decide +kernel
theorem i_M_copyPages_42 : decode m_M_copyPages.2.1 42 = .ok (.iadd, 1) := by decide +kernel
theorem i_M_copyPages_43 : decode m_M_copyPages.2.1 43 = .ok (.iaload, 1) := by decide +kernel
theorem i_M_copyPages_44 : decode m_M_copyPages.2.1 44 = .ok (.iastore, 1) := by decide +kernel
theorem i_M_copyPages_45 : decode m_M_copyPages.2.1 45 = .ok (.aload_n 0, 1) := by decide +kernel
theorem i_M_copyPages_46 : qGet m_M_copyPages 46 5 3 := ⟨16, _, by decide +kernel, rfl, by decide, rfl, Or.inl wd_784⟩
theorem i_M_copyPages_49 : decode m_M_copyPages.2.1 49 = .ok (.iload_n 1, 1) := by decide +kernel
theorem i_M_copyPages_50 : decode m_M_copyPages.2.1 50 = .ok (.iload 4, 2) := by decide +kernel
theorem i_M_copyPages_52 : decode m_M_copyPages.2.1 52 = .ok (.iadd, 1) := by decide +kernel
theorem i_M_copyPages_53 : decode m_M_copyPages.2.1 53 = .ok (.aload_n 0, 1) := by decide +kernel
theorem i_M_copyPages_54 : qGet m_M_copyPages 54 5 3 := ⟨16, _, by decide +kernel, rfl, by decide, rfl, Or.inl wd_784⟩
theorem i_M_copyPages_57 : decode m_M_copyPages.2.1 57 = .ok (.iload_n 2, 1) := by decide +kernel
theorem i_M_copyPages_58 : decode m_M_copyPages.2.1 58 = .ok (.iload 4, 2) := by decide +kernel
theorem i_M_copyPages_60 : decode m_M_copyPages.2.1 60 = .ok (.iadd, 1) := by decide +kernel
theorem i_M_copyPages_61 : decode m_M_copyPages.2.1 61 = .ok (.iaload, 1) := by decide +kernel
theorem i_M_copyPages_62 : decode m_M_copyPages.2.1 62 = .ok (.iastore, 1) := by decide +kernel
theorem i_M_copyPages_63 : decode m_M_copyPages.2.1 63 = .ok (.aload_n 0, 1) := by decide +kernel
theorem i_M_copyPages_64 : qGet m_M_copyPages 64 5 4 := ⟨19, _, by decide +kernel, rfl, by decide, rfl, Or.inl wd_785⟩
theorem i_M_copyPages_67 : decode m_M_copyPages.2.1 67 = .ok (.iload_n 1, 1) := by decide +kernel
theorem i_M_copyPages_68 : decode m_M_copyPages.2.1 68 = .ok (.iload 4, 2) := by decide +kernel
theorem i_M_copyPages_70 : decode m_M_copyPages.2.1 70 = .ok (.iadd, 1) := by decide +kernel
theorem i_M_copyPages_71 : decode m_M_copyPages.2.1 71 = .ok (.aload_n 0, 1) := by decide +kernel
theorem i_M_copyPages_72 : qGet m_M_copyPages 72 5 4 := ⟨19, _, by decide +kernel, rfl, by decide, rfl, Or.inl wd_785⟩
theorem i_M_copyPages_75 : decode m_M_copyPages.2.1 75 = .ok (.iload_n 2, 1) := by decide +kernel
theorem i_M_copyPages_76 : decode m_M_copyPages.2.1 76 = .ok (.iload 4, 2) := by decide +kernel
theorem i_M_copyPages_78 : decode m_M_copyPages.2.1 78 = .ok (.iadd, 1) := by decide +kernel
theorem i_M_copyPages_79 : decode m_M_copyPages.2.1 79 = .ok (.iaload, 1) := by decide +kernel
theorem i_M_copyPages_80 : decode m_M_copyPages.2.1 80 = .ok (.iastore, 1) := by decide +kernel
theorem i_M_copyPages_81 : decode m_M_copyPages.2.1 81 = .ok (.iconst 0, 1) := by decide +kernel
theorem i_M_copyPages_82 : decode m_M_copyPages.2.1 82 = .ok (.istore 5, 2) := by decide +kernel
theorem i_M_copyPages_84 : decode m_M_copyPages.2.1 84 = .ok (.iload 5, 2) := by decide +kernel
theorem i_M_copyPages_86 : decode m_M_copyPages.2.1 86 = .ok (.bipush 16, 2) := by decide +kernel
theorem i_M_copyPages_88 : decode m_M_copyPages.2.1 88 = .ok (.if_icmp .ge 89, 3) := by decide +kernel
theorem i_M_copyPages_91 : decode m_M_copyPages.2.1 91 = .ok (.bipush 16, 2) := by decide +kernel
theorem i_M_copyPages_93 : decode m_M_copyPages.2.1 93 = .ok (.iload_n 1, 1) := by decide +kernel
theorem i_M_copyPages_94 : decode m_M_copyPages.2.1 94 = .ok (.iload 4, 2) := by decide +kernel
theorem i_M_copyPages_96 : decode m_M_copyPages.2.1 96 = .ok (.iadd, 1) := by decide +kernel
theorem i_M_copyPages_97 : decode m_M_copyPages.2.1 97 = .ok (.imul, 1) := by decide +kernel
theorem i_M_copyPages_98 : decode m_M_copyPages.2.1 98 = .ok (.iload 5, 2) := by decide +kernel
theorem i_M_copyPages_100 : decode m_M_copyPages.2.1 100 = .ok (.iadd, 1) := by decide +kernel
theorem i_M_copyPages_101 : decode m_M_copyPages.2.1 101 = .ok (.istore 6, 2) := by decide +kernel
theorem i_M_copyPages_103 : decode m_M_copyPages.2.1 103 = .ok (.bipush 16, 2) := by decide +kernel
theorem i_M_copyPages_105 : decode m_M_copyPages.2.1 105 = .ok (.iload_n 2, 1) := by decide +kernel
theorem i_M_copyPages_106 : decode m_M_copyPages.2.1 106 = .ok (.iload 4, 2) := by decide +kernel
theorem i_M_copyPages_108 : decode m_M_copyPages.2.1 108 = .ok (.iadd, 1) := by decide +kernel
theorem i_M_copyPages_109 : decode m_M_copyPages.2.1 109 = .ok (.imul, 1) := by decide +kernel
theorem i_M_copyPages_110 : decode m_M_copyPages.2.1 110 = .ok (.iload 5, 2) := by decide +kernel
theorem i_M_copyPages_112 : decode m_M_copyPages.2.1 112 = .ok (.iadd, 1) := by decide +kernel
theorem i_M_copyPages_113 : decode m_M_copyPages.2.1 113 = .ok (.istore 7, 2) := by decide +kernel
theorem i_M_copyPages_115 : decode m_M_copyPages.2.1 115 = .ok (.aload_n 0, 1) := by decide +kernel
theorem i_M_copyPages_116 : qGet m_M_copyPages 116 5 6 := ⟨26, _, by decide +kernel, rfl, by decide, rfl, Or.inl wd_787⟩
theorem i_M_copyPages_119 : decode m_M_copyPages.2.1 119 = .ok (.iload 6, 2) := by decide +kernel
theorem i_M_copyPages_121 : decode m_M_copyPages.2.1 121 = .ok (.aload_n 0, 1) := by decide +kernel
theorem i_M_copyPages_122 : qGet m_M_copyPages 122 5 6 := ⟨26, _, by decide +kernel, rfl, by decide, rfl, Or.inl wd_787⟩
theorem i_M_copyPages_125 : decode m_M_copyPages.2.1 125 = .ok (.iload 7, 2) := by decide +kernel
theorem i_M_copyPages_127 : decode m_M_copyPages.2.1 127 = .ok (.iaload, 1) := by decide +kernel
theorem i_M_copyPages_128 : decode m_M_copyPages.2.1 128 = .ok (.iastore, 1) := by decide +kernel
theorem i_M_copyPages_129 : decode m_M_copyPages.2.1 129 = .ok (.aload_n 0, 1) := by decide +kernel
theorem i_M_copyPages_130 : qGet m_M_copyPages 130 5 7 := ⟨29, _, by decide +kernel, rfl, by decide, rfl, Or.inl wd_788⟩
theorem i_M_copyPages_133 : decode m_M_copyPages.2.1 133 = .ok (.iload 6, 2) := by decide +kernel
theorem i_M_copyPages_135 : decode m_M_copyPages.2.1 135 = .ok (.aload_n 0, 1) := by decide +kernel
theorem i_M_copyPages_136 : qGet m_M_copyPages 136 5 7 := ⟨29, _, by decide +kernel, rfl, by decide, rfl, Or.inl wd_788⟩
theorem i_M_copyPages_139 : decode m_M_copyPages.2.1 139 = .ok (.iload 7, 2) := by decide +kernel
theorem i_M_copyPages_141 : decode m_M_copyPages.2.1 141 = .ok (.iaload, 1) := by decide +kernel
theorem i_M_copyPages_142 : decode m_M_copyPages.2.1 142 = .ok (.iastore, 1) := by decide +kernel
theorem i_M_copyPages_143 : decode m_M_copyPages.2.1 143 = .ok (.aload_n 0, 1) := by decide +kernel
theorem i_M_copyPages_144 : qGet m_M_copyPages 144 5 8 := ⟨32, _, by decide +kernel, rfl, by decide, rfl, Or.inl wd_789⟩
theorem i_M_copyPages_147 : decode m_M_copyPages.2.1 147 = .ok (.iload 6, 2) := by decide +kernel
theorem i_M_copyPages_149 : decode m_M_copyPages.2.1 149 = .ok (.aload_n 0, 1) := by decide +kernel
theorem i_M_copyPages_150 : qGet m_M_copyPages 150 5 8 := ⟨32, _, by decide +kernel, rfl, by decide, rfl, Or.inl wd_789⟩
theorem i_M_copyPages_153 : decode m_M_copyPages.2.1 153 = .ok (.iload 7, 2) := by decide +kernel
theorem i_M_copyPages_155 : decode m_M_copyPages.2.1 155 = .ok (.iaload, 1) := by decide +kernel
theorem i_M_copyPages_156 : decode m_M_copyPages.2.1 156 = .ok (.iastore, 1) := by decide +kernel
theorem i_M_copyPages_157 : decode m_M_copyPages.2.1 157 = .ok (.aload_n 0, 1) := by decide +kernel
theorem i_M_copyPages_158 : qGet m_M_copyPages 158 5 9 := ⟨35, _, by decide +kernel, rfl, by decide, rfl, Or.inl wd_790⟩
theorem i_M_copyPages_161 : decode m_M_copyPages.2.1 161 = .ok (.iload 6, 2) := by decide +kernel
theorem i_M_copyPages_163 : decode m_M_copyPages.2.1 163 = .ok (.aload_n 0, 1) := by decide +kernel
theorem i_M_copyPages_164 : qGet m_M_copyPages 164 5 9 := ⟨35, _, by decide +kernel, rfl, by decide, rfl, Or.inl wd_790⟩
theorem i_M_copyPages_167 : decode m_M_copyPages.2.1 167 = .ok (.iload 7, 2) := by decide +kernel
theorem i_M_copyPages_169 : decode m_M_copyPages.2.1 169 = .ok (.laload, 1) := by decide +kernel
theorem i_M_copyPages_170 : decode m_M_copyPages.2.1 170 = .ok (.lastore, 1) := by decide +kernel
theorem i_M_copyPages_171 : decode m_M_copyPages.2.1 171 = .ok (.iinc 5 1, 3) := by decide +kernel
theorem i_M_copyPages_174 : decode m_M_copyPages.2.1 174 = .ok (.goto (-90), 3) := by decide +kernel
theorem i_M_copyPages_177 : decode m_M_copyPages.2.1 177 = .ok (.iinc 4 1, 3) := by decide +kernel
theorem i_M_copyPages_180 : decode m_M_copyPages.2.1 180 = .ok (.goto (-177), 3) := by decide +kernel
theorem i_M_copyPages_183 : decode m_M_copyPages.2.1 183 = .ok (.return_, 1) := by decide +kernel
theorem i_M_isAlive_0 : decode m_M_isAlive.2.1 0 = .ok (.aload_n 0, 1) := by decide +kernel
theorem i_M_isAlive_1 : qGet m_M_isAlive 1 5 7 := ⟨29, _, by decide +kernel, rfl, by decide, rfl, Or.inl wd_788⟩
theorem i_M_isAlive_4 : decode m_M_isAlive.2.1 4 = .ok (.iload_n 1, 1) := by decide +kernel
theorem i_M_isAlive_5 : decode m_M_isAlive.2.1 5 = .ok (.iaload, 1) := by decide +kernel
theorem i_M_isAlive_6 : decode m_M_isAlive.2.1 6 = .ok (.iload_n 2, 1) := by decide +kernel
theorem i_M_isAlive_7 : decode m_M_isAlive.2.1 7 = .ok (.if_icmp .gt 26, 3) := by decide +kernel
theorem i_M_isAlive_10 : decode m_M_isAlive.2.1 10 = .ok (.aload_n 0, 1) := by decide +kernel
theorem i_M_isAlive_11 : qGet m_M_isAlive 11 5 8 := ⟨32, _, by decide +kernel, rfl, by decide, rfl, Or.inl wd_789⟩
theorem i_M_isAlive_14 : decode m_M_isAlive.2.1 14 = .ok (.iload_n 1, 1) := by decide +kernel
theorem i_M_isAlive_15 : decode m_M_isAlive.2.1 15 = .ok (.iaload, 1) := by decide +kernel
theorem i_M_isAlive_16 : decode m_M_isAlive.2.1 16 = .ok (.ifCond .lt 13, 3) := by decide +kernel
theorem i_M_isAlive_19 : decode m_M_isAlive.2.1 19 = .ok (.aload_n 0, 1) := by decide +kernel
theorem i_M_isAlive_20 : qGet m_M_isAlive 20 5 8 := ⟨32, _, by decide +kernel, rfl, by decide, rfl, Or.inl wd_789⟩
theorem i_M_isAlive_23 : decode m_M_isAlive.2.1 23 = .ok (.iload_n 1, 1) := by decide +kernel
theorem i_M_isAlive_24 : decode m_M_isAlive.2.1 24 = .ok (.iaload, 1) := by decide +kernel
theorem i_M_isAlive_25 : decode m_M_isAlive.2.1 25 = .ok (.iload_n 2, 1) := by decide +kernel
theorem i_M_isAlive_26 : decode m_M_isAlive.2.1 26 = .ok (.if_icmp .le 7, 3) := by decide +kernel
theorem i_M_isAlive_29 : decode m_M_isAlive.2.1 29 = .ok (.iconst 1, 1) := by decide +kernel
theorem i_M_isAlive_30 : decode m_M_isAlive.2.1 30 = .ok (.goto 4, 3) := by decide +kernel
theorem i_M_isAlive_33 : decode m_M_isAlive.2.1 33 = .ok (.iconst 0, 1) := by decide +kernel
theorem i_M_isAlive_34 : decode m_M_isAlive.2.1 34 = .ok (.ireturn, 1) := by decide +kernel
theorem i_M_serves_0 : decode m_M_serves.2.1 0 = .ok (.aload_n 0, 1) := by decide +kernel
theorem i_M_serves_1 : qGet m_M_serves 1 5 2 := ⟨13, _, by decide +kernel, rfl, by decide, rfl, Or.inl wd_783⟩
theorem i_M_serves_4 : decode m_M_serves.2.1 4 = .ok (.iload_n 1, 1) := by decide +kernel
theorem i_M_serves_5 : decode m_M_serves.2.1 5 = .ok (.iaload, 1) := by decide +kernel
theorem i_M_serves_6 : decode m_M_serves.2.1 6 = .ok (.iload_n 2, 1) := by decide +kernel
theorem i_M_serves_7 : decode m_M_serves.2.1 7 = .ok (.if_icmp .gt 26, 3) := by decide +kernel
theorem i_M_serves_10 : decode m_M_serves.2.1 10 = .ok (.aload_n 0, 1) := by decide +kernel
theorem i_M_serves_11 : qGet m_M_serves 11 5 3 := ⟨16, _, by decide +kernel, rfl, by decide, rfl, Or.inl wd_784⟩
theorem i_M_serves_14 : decode m_M_serves.2.1 14 = .ok (.iload_n 1, 1) := by decide +kernel
theorem i_M_serves_15 : decode m_M_serves.2.1 15 = .ok (.iaload, 1) := by decide +kernel
theorem i_M_serves_16 : decode m_M_serves.2.1 16 = .ok (.ifCond .lt 13, 3) := by decide +kernel
theorem i_M_serves_19 : decode m_M_serves.2.1 19 = .ok (.aload_n 0, 1) := by decide +kernel
theorem i_M_serves_20 : qGet m_M_serves 20 5 3 := ⟨16, _, by decide +kernel, rfl, by decide, rfl, Or.inl wd_784⟩
theorem i_M_serves_23 : decode m_M_serves.2.1 23 = .ok (.iload_n 1, 1) := by decide +kernel
theorem i_M_serves_24 : decode m_M_serves.2.1 24 = .ok (.iaload, 1) := by decide +kernel
theorem i_M_serves_25 : decode m_M_serves.2.1 25 = .ok (.iload_n 2, 1) := by decide +kernel
theorem i_M_serves_26 : decode m_M_serves.2.1 26 = .ok (.if_icmp .le 7, 3) := by decide +kernel
theorem i_M_serves_29 : decode m_M_serves.2.1 29 = .ok (.iconst 1, 1) := by decide +kernel
theorem i_M_serves_30 : decode m_M_serves.2.1 30 = .ok (.goto 4, 3) := by decide +kernel
theorem i_M_serves_33 : decode m_M_serves.2.1 33 = .ok (.iconst 0, 1) := by decide +kernel
theorem i_M_serves_34 : decode m_M_serves.2.1 34 = .ok (.ireturn, 1) := by decide +kernel
theorem i_M_aliveIn_0 : decode m_M_aliveIn.2.1 0 = .ok (.iconst 0, 1) := by decide +kernel
theorem i_M_aliveIn_1 : decode m_M_aliveIn.2.1 1 = .ok (.istore_n 3, 1) := by decide +kernel
theorem i_M_aliveIn_2 : decode m_M_aliveIn.2.1 2 = .ok (.bipush 16, 2) := by decide +kernel
theorem i_M_aliveIn_4 : decode m_M_aliveIn.2.1 4 = .ok (.iload_n 1, 1) := by decide +kernel
theorem i_M_aliveIn_5 : decode m_M_aliveIn.2.1 5 = .ok (.imul, 1) := by decide +kernel
theorem i_M_aliveIn_6 : decode m_M_aliveIn.2.1 6 = .ok (.istore 4, 2) := by decide +kernel
theorem i_M_aliveIn_8 : decode m_M_aliveIn.2.1 8 = .ok (.iload 4, 2) := by decide +kernel
theorem i_M_aliveIn_10 : decode m_M_aliveIn.2.1 10 = .ok (.bipush 16, 2) := by decide +kernel
theorem i_M_aliveIn_12 : decode m_M_aliveIn.2.1 12 = .ok (.iload_n 1, 1) := by decide +kernel
theorem i_M_aliveIn_13 : decode m_M_aliveIn.2.1 13 = .ok (.imul, 1) := by decide +kernel
theorem i_M_aliveIn_14 : decode m_M_aliveIn.2.1 14 = .ok (.aload_n 0, 1) := by decide +kernel
theorem i_M_aliveIn_15 : qGet m_M_aliveIn 15 5 4 := ⟨19, _, by decide +kernel, rfl, by decide, rfl, Or.inl wd_785⟩
theorem i_M_aliveIn_18 : decode m_M_aliveIn.2.1 18 = .ok (.iload_n 1, 1) := by decide +kernel
theorem i_M_aliveIn_19 : decode m_M_aliveIn.2.1 19 = .ok (.iaload, 1) := by decide +kernel
theorem i_M_aliveIn_20 : decode m_M_aliveIn.2.1 20 = .ok (.iadd, 1) := by decide +kernel
theorem i_M_aliveIn_21 : decode m_M_aliveIn.2.1 21 = .ok (.if_icmp .ge 27, 3) := by decide +kernel
theorem i_M_aliveIn_24 : decode m_M_aliveIn.2.1 24 = .ok (.iload_n 3, 1) := by decide +kernel
theorem i_M_aliveIn_25 : decode m_M_aliveIn.2.1 25 = .ok (.aload_n 0, 1) := by decide +kernel
theorem i_M_aliveIn_26 : decode m_M_aliveIn.2.1 26 = .ok (.iload 4, 2) := by decide +kernel
theorem i_M_aliveIn_28 : decode m_M_aliveIn.2.1 28 = .ok (.iload_n 2, 1) := by decide +kernel
theorem i_M_aliveIn_29 : qInv m_M_aliveIn 29 m_M_isAlive 5 2 := ⟨124, _, by decide +kernel, rfl, rfl, wd_938, wd_940, ws_24, by decide +kernel⟩
theorem i_M_aliveIn_32 : decode m_M_aliveIn.2.1 32 = .ok (.ifCond .eq 7, 3) := by decide +kernel
theorem i_M_aliveIn_35 : decode m_M_aliveIn.2.1 35 = .ok (.iconst 1, 1) := by decide +kernel
theorem i_M_aliveIn_36 : decode m_M_aliveIn.2.1 36 = .ok (.goto 4, 3) := by decide +kernel
theorem i_M_aliveIn_39 : decode m_M_aliveIn.2.1 39 = .ok (.iconst 0, 1) := by decide +kernel
theorem i_M_aliveIn_40 : decode m_M_aliveIn.2.1 40 = .ok (.iadd, 1) := by decide +kernel
theorem i_M_aliveIn_41 : decode m_M_aliveIn.2.1 41 = .ok (.istore_n 3, 1) := by decide +kernel
theorem i_M_aliveIn_42 : decode m_M_aliveIn.2.1 42 = .ok (.iinc 4 1, 3) := by decide +kernel
theorem i_M_aliveIn_45 : decode m_M_aliveIn.2.1 45 = .ok (.goto (-37), 3) := by decide +kernel
theorem i_M_aliveIn_48 : decode m_M_aliveIn.2.1 48 = .ok (.iload_n 3, 1) := by decide +kernel
theorem i_M_aliveIn_49 : decode m_M_aliveIn.2.1 49 = .ok (.ireturn, 1) := by decide +kernel
theorem i_M_standing_0 : decode m_M_standing.2.1 0 = .ok (.iconst (-1), 1) := by decide +kernel
theorem i_M_standing_1 : decode m_M_standing.2.1 1 = .ok (.istore 4, 2) := by decide +kernel
theorem i_M_standing_3 : decode m_M_standing.2.1 3 = .ok (.iconst (-1), 1) := by decide +kernel
theorem i_M_standing_4 : decode m_M_standing.2.1 4 = .ok (.istore 5, 2) := by decide +kernel
theorem i_M_standing_6 : decode m_M_standing.2.1 6 = .ok (.bipush 16, 2) := by decide +kernel
theorem i_M_standing_8 : decode m_M_standing.2.1 8 = .ok (.iload_n 1, 1) := by decide +kernel
theorem i_M_standing_9 : decode m_M_standing.2.1 9 = .ok (.imul, 1) := by decide +kernel
theorem i_M_standing_10 : decode m_M_standing.2.1 10 = .ok (.istore 6, 2) := by decide +kernel
theorem i_M_standing_12 : decode m_M_standing.2.1 12 = .ok (.iload 6, 2) := by decide +kernel
theorem i_M_standing_14 : decode m_M_standing.2.1 14 = .ok (.bipush 16, 2) := by decide +kernel
theorem i_M_standing_16 : decode m_M_standing.2.1 16 = .ok (.iload_n 1, 1) := by decide +kernel
theorem i_M_standing_17 : decode m_M_standing.2.1 17 = .ok (.imul, 1) := by decide +kernel
theorem i_M_standing_18 : decode m_M_standing.2.1 18 = .ok (.aload_n 0, 1) := by decide +kernel
theorem i_M_standing_19 : qGet m_M_standing 19 5 4 := ⟨19, _, by decide +kernel, rfl, by decide, rfl, Or.inl wd_785⟩
theorem i_M_standing_22 : decode m_M_standing.2.1 22 = .ok (.iload_n 1, 1) := by decide +kernel
theorem i_M_standing_23 : decode m_M_standing.2.1 23 = .ok (.iaload, 1) := by decide +kernel
theorem i_M_standing_24 : decode m_M_standing.2.1 24 = .ok (.iadd, 1) := by decide +kernel
theorem i_M_standing_25 : decode m_M_standing.2.1 25 = .ok (.if_icmp .ge 92, 3) := by decide +kernel
theorem i_M_standing_28 : decode m_M_standing.2.1 28 = .ok (.aload_n 0, 1) := by decide +kernel
theorem i_M_standing_29 : decode m_M_standing.2.1 29 = .ok (.iload 6, 2) := by decide +kernel
theorem i_M_standing_31 : decode m_M_standing.2.1 31 = .ok (.iload_n 2, 1) := by decide +kernel
theorem i_M_standing_32 : qInv m_M_standing 32 m_M_isAlive 5 2 := ⟨124, _, by decide +kernel, rfl, rfl, wd_938, wd_940, ws_24, by decide +kernel⟩
theorem i_M_standing_35 : decode m_M_standing.2.1 35 = .ok (.ifCond .eq 76, 3) := by decide +kernel
theorem i_M_standing_38 : decode m_M_standing.2.1 38 = .ok (.iload 5, 2) := by decide +kernel
theorem i_M_standing_40 : decode m_M_standing.2.1 40 = .ok (.ifCond .lt 20, 3) := by decide +kernel
theorem i_M_standing_43 : decode m_M_standing.2.1 43 = .ok (.aload_n 0, 1) := by decide +kernel
theorem i_M_standing_44 : qGet m_M_standing 44 5 6 := ⟨26, _, by decide +kernel, rfl, by decide, rfl, Or.inl wd_787⟩
theorem i_M_standing_47 : decode m_M_standing.2.1 47 = .ok (.iload 6, 2) := by decide +kernel
theorem i_M_standing_49 : decode m_M_standing.2.1 49 = .ok (.iaload, 1) := by decide +kernel
theorem i_M_standing_50 : decode m_M_standing.2.1 50 = .ok (.aload_n 0, 1) := by decide +kernel
theorem i_M_standing_51 : qGet m_M_standing 51 5 6 := ⟨26, _, by decide +kernel, rfl, by decide, rfl, Or.inl wd_787⟩
theorem i_M_standing_54 : decode m_M_standing.2.1 54 = .ok (.iload 5, 2) := by decide +kernel
theorem i_M_standing_56 : decode m_M_standing.2.1 56 = .ok (.iaload, 1) := by decide +kernel
theorem i_M_standing_57 : decode m_M_standing.2.1 57 = .ok (.if_icmp .ge 8, 3) := by decide +kernel
theorem i_M_standing_60 : decode m_M_standing.2.1 60 = .ok (.iload 6, 2) := by decide +kernel
theorem i_M_standing_62 : decode m_M_standing.2.1 62 = .ok (.goto 5, 3) := by decide +kernel
theorem i_M_standing_65 : decode m_M_standing.2.1 65 = .ok (.iload 5, 2) := by decide +kernel
theorem i_M_standing_67 : decode m_M_standing.2.1 67 = .ok (.istore 5, 2) := by decide +kernel
theorem i_M_standing_69 : decode m_M_standing.2.1 69 = .ok (.aload_n 0, 1) := by decide +kernel
theorem i_M_standing_70 : qGet m_M_standing 70 5 6 := ⟨26, _, by decide +kernel, rfl, by decide, rfl, Or.inl wd_787⟩
theorem i_M_standing_73 : decode m_M_standing.2.1 73 = .ok (.iload 6, 2) := by decide +kernel
theorem i_M_standing_75 : decode m_M_standing.2.1 75 = .ok (.iaload, 1) := by decide +kernel
theorem i_M_standing_76 : decode m_M_standing.2.1 76 = .ok (.iload_n 3, 1) := by decide +kernel
theorem i_M_standing_77 : decode m_M_standing.2.1 77 = .ok (.if_icmp .gt 30, 3) := by decide +kernel
theorem i_M_standing_80 : decode m_M_standing.2.1 80 = .ok (.iload 4, 2) := by decide +kernel
theorem i_M_standing_82 : decode m_M_standing.2.1 82 = .ok (.ifCond .lt 20, 3) := by decide +kernel
theorem i_M_standing_85 : decode m_M_standing.2.1 85 = .ok (.aload_n 0, 1) := by decide +kernel
theorem i_M_standing_86 : qGet m_M_standing 86 5 6 := ⟨26, _, by decide +kernel, rfl, by decide, rfl, Or.inl wd_787⟩
theorem i_M_standing_89 : decode m_M_standing.2.1 89 = .ok (.iload 6, 2) := by decide +kernel
theorem i_M_standing_91 : decode m_M_standing.2.1 91 = .ok (.iaload, 1) := by decide +kernel
theorem i_M_standing_92 : decode m_M_standing.2.1 92 = .ok (.aload_n 0, 1) := by decide +kernel
theorem i_M_standing_93 : qGet m_M_standing 93 5 6 := ⟨26, _, by decide +kernel, rfl, by decide, rfl, Or.inl wd_787⟩
theorem i_M_standing_96 : decode m_M_standing.2.1 96 = .ok (.iload 4, 2) := by decide +kernel
theorem i_M_standing_98 : decode m_M_standing.2.1 98 = .ok (.iaload, 1) := by decide +kernel
theorem i_M_standing_99 : decode m_M_standing.2.1 99 = .ok (.if_icmp .le 8, 3) := by decide +kernel
theorem i_M_standing_102 : decode m_M_standing.2.1 102 = .ok (.iload 6, 2) := by decide +kernel
theorem i_M_standing_104 : decode m_M_standing.2.1 104 = .ok (.goto 5, 3) := by decide +kernel
theorem i_M_standing_107 : decode m_M_standing.2.1 107 = .ok (.iload 4, 2) := by decide +kernel
theorem i_M_standing_109 : decode m_M_standing.2.1 109 = .ok (.istore 4, 2) := by decide +kernel
theorem i_M_standing_111 : decode m_M_standing.2.1 111 = .ok (.iinc 6 1, 3) := by decide +kernel
theorem i_M_standing_114 : decode m_M_standing.2.1 114 = .ok (.goto (-102), 3) := by decide +kernel
theorem i_M_standing_117 : decode m_M_standing.2.1 117 = .ok (.iload 4, 2) := by decide +kernel
theorem i_M_standing_119 : decode m_M_standing.2.1 119 = .ok (.ifCond .ge 8, 3) := by decide +kernel
theorem i_M_standing_122 : decode m_M_standing.2.1 122 = .ok (.iload 5, 2) := by decide +kernel
theorem i_M_standing_124 : decode m_M_standing.2.1 124 = .ok (.goto 5, 3) := by decide +kernel
theorem i_M_standing_127 : decode m_M_standing.2.1 127 = .ok (.iload 4, 2) := by decide +kernel
theorem i_M_standing_129 : decode m_M_standing.2.1 129 = .ok (.ireturn, 1) := by decide +kernel
theorem i_M_leafEntry_0 : decode m_M_leafEntry.2.1 0 = .ok (.aload_n 0, 1) := by decide +kernel
theorem i_M_leafEntry_1 : qGet m_M_leafEntry 1 5 14 := ⟨46, _, by decide +kernel, rfl, by decide, rfl, Or.inl wd_795⟩
theorem i_M_leafEntry_4 : decode m_M_leafEntry.2.1 4 = .ok (.iload_n 1, 1) := by decide +kernel
theorem i_M_leafEntry_5 : decode m_M_leafEntry.2.1 5 = .ok (.iaload, 1) := by decide +kernel
theorem i_M_leafEntry_6 : decode m_M_leafEntry.2.1 6 = .ok (.istore_n 3, 1) := by decide +kernel
theorem i_M_leafEntry_7 : decode m_M_leafEntry.2.1 7 = .ok (.aload_n 0, 1) := by decide +kernel
theorem i_M_leafEntry_8 : qGet m_M_leafEntry 8 5 1 := ⟨7, _, by decide +kernel, rfl, by decide, rfl, Or.inl wd_782⟩
theorem i_M_leafEntry_11 : decode m_M_leafEntry.2.1 11 = .ok (.iload_n 3, 1) := by decide +kernel
theorem i_M_leafEntry_12 : decode m_M_leafEntry.2.1 12 = .ok (.iaload, 1) := by decide +kernel
theorem i_M_leafEntry_13 : decode m_M_leafEntry.2.1 13 = .ok (.ifCond .le 20, 3) := by decide +kernel
theorem i_M_leafEntry_16 : decode m_M_leafEntry.2.1 16 = .ok (.aload_n 0, 1) := by decide +kernel
theorem i_M_leafEntry_17 : qGet m_M_leafEntry 17 5 9 := ⟨35, _, by decide +kernel, rfl, by decide, rfl, Or.inl wd_790⟩
theorem i_M_leafEntry_20 : decode m_M_leafEntry.2.1 20 = .ok (.aload_n 0, 1) := by decide +kernel
theorem i_M_leafEntry_21 : decode m_M_leafEntry.2.1 21 = .ok (.iload_n 3, 1) := by decide +kernel
theorem i_M_leafEntry_22 : decode m_M_leafEntry.2.1 22 = .ok (.iload_n 1, 1) := by decide +kernel
theorem i_M_leafEntry_23 : decode m_M_leafEntry.2.1 23 = .ok (.iload_n 2, 1) := by decide +kernel
theorem i_M_leafEntry_24 : qInv m_M_leafEntry 24 m_M_standing 5 3 := ⟨128, _, by decide +kernel, rfl, rfl, wd_934, wd_936, ws_23, by decide +kernel⟩
theorem i_M_leafEntry_27 : decode m_M_leafEntry.2.1 27 = .ok (.laload, 1) := by decide +kernel
theorem i_M_leafEntry_28 : decode m_M_leafEntry.2.1 28 = .ok (.l2i, 1) := by decide +kernel
theorem i_M_leafEntry_29 : decode m_M_leafEntry.2.1 29 = .ok (.istore_n 3, 1) := by decide +kernel
theorem i_M_leafEntry_30 : decode m_M_leafEntry.2.1 30 = .ok (.goto (-23), 3) := by decide +kernel
theorem i_M_leafEntry_33 : decode m_M_leafEntry.2.1 33 = .ok (.bipush 16, 2) := by decide +kernel
theorem i_M_leafEntry_35 : decode m_M_leafEntry.2.1 35 = .ok (.iload_n 3, 1) := by decide +kernel
theorem i_M_leafEntry_36 : decode m_M_leafEntry.2.1 36 = .ok (.imul, 1) := by decide +kernel
theorem i_M_leafEntry_37 : decode m_M_leafEntry.2.1 37 = .ok (.istore 4, 2) := by decide +kernel
theorem i_M_leafEntry_39 : decode m_M_leafEntry.2.1 39 = .ok (.iload 4, 2) := by decide +kernel
theorem i_M_leafEntry_41 : decode m_M_leafEntry.2.1 41 = .ok (.bipush 16, 2) := by decide +kernel
theorem i_M_leafEntry_43 : decode m_M_leafEntry.2.1 43 = .ok (.iload_n 3, 1) := by decide +kernel
theorem i_M_leafEntry_44 : decode m_M_leafEntry.2.1 44 = .ok (.imul, 1) := by decide +kernel
theorem i_M_leafEntry_45 : decode m_M_leafEntry.2.1 45 = .ok (.aload_n 0, 1) := by decide +kernel
theorem i_M_leafEntry_46 : qGet m_M_leafEntry 46 5 4 := ⟨19, _, by decide +kernel, rfl, by decide, rfl, Or.inl wd_785⟩
theorem i_M_leafEntry_49 : decode m_M_leafEntry.2.1 49 = .ok (.iload_n 3, 1) := by decide +kernel
theorem i_M_leafEntry_50 : decode m_M_leafEntry.2.1 50 = .ok (.iaload, 1) := by decide +kernel
theorem i_M_leafEntry_51 : decode m_M_leafEntry.2.1 51 = .ok (.iadd, 1) := by decide +kernel
theorem i_M_leafEntry_52 : decode m_M_leafEntry.2.1 52 = .ok (.if_icmp .ge 33, 3) := by decide +kernel
theorem i_M_leafEntry_55 : decode m_M_leafEntry.2.1 55 = .ok (.aload_n 0, 1) := by decide +kernel
theorem i_M_leafEntry_56 : decode m_M_leafEntry.2.1 56 = .ok (.iload 4, 2) := by decide +kernel
theorem i_M_leafEntry_58 : decode m_M_leafEntry.2.1 58 = .ok (.iload_n 1, 1) := by decide +kernel
theorem i_M_leafEntry_59 : qInv m_M_leafEntry 59 m_M_isAlive 5 2 := ⟨124, _, by decide +kernel, rfl, rfl, wd_938, wd_940, ws_24, by decide +kernel⟩
theorem i_M_leafEntry_62 : decode m_M_leafEntry.2.1 62 = .ok (.ifCond .eq 17, 3) := by decide +kernel
theorem i_M_leafEntry_65 : decode m_M_leafEntry.2.1 65 = .ok (.aload_n 0, 1) := by decide +kernel
theorem i_M_leafEntry_66 : qGet m_M_leafEntry 66 5 6 := ⟨26, _, by decide +kernel, rfl, by decide, rfl, Or.inl wd_787⟩
theorem i_M_leafEntry_69 : decode m_M_leafEntry.2.1 69 = .ok (.iload 4, 2) := by decide +kernel
theorem i_M_leafEntry_71 : decode m_M_leafEntry.2.1 71 = .ok (.iaload, 1) := by decide +kernel
theorem i_M_leafEntry_72 : decode m_M_leafEntry.2.1 72 = .ok (.iload_n 2, 1) := by decide +kernel
theorem i_M_leafEntry_73 : decode m_M_leafEntry.2.1 73 = .ok (.if_icmp .ne 6, 3) := by decide +kernel
theorem i_M_leafEntry_76 : decode m_M_leafEntry.2.1 76 = .ok (.iload 4, 2) := by decide +kernel
theorem i_M_leafEntry_78 : decode m_M_leafEntry.2.1 78 = .ok (.ireturn, 1) := by decide +kernel
theorem i_M_leafEntry_79 : decode m_M_leafEntry.2.1 79 = .ok (.iinc 4 1, 3) := by decide +kernel
theorem i_M_leafEntry_82 : decode m_M_leafEntry.2.1 82 = .ok (.goto (-43), 3) := by decide +kernel
theorem i_M_leafEntry_85 : decode m_M_leafEntry.2.1 85 = .ok (.iconst (-1), 1) := by decide +kernel
theorem i_M_leafEntry_86 : decode m_M_leafEntry.2.1 86 = .ok (.ireturn, 1) := by decide +kernel
theorem i_M_newPage_0 : decode m_M_newPage.2.1 0 = .ok (.aload_n 0, 1) := by decide +kernel
theorem i_M_newPage_1 : qGet m_M_newPage 1 5 10 := ⟨39, _, by decide +kernel, rfl, by decide, rfl, Or.inl wd_791⟩
theorem i_M_newPage_4 : decode m_M_newPage.2.1 4 = .ok (.istore_n 3, 1) := by decide +kernel
theorem i_M_newPage_5 : decode m_M_newPage.2.1 5 = .ok (.aload_n 0, 1) := by decide +kernel
theorem i_M_newPage_6 : decode m_M_newPage.2.1 6 = .ok (.dup, 1) := by decide +kernel
theorem i_M_newPage_7 : qGet m_M_newPage 7 5 10 := ⟨39, _, by decide +kernel, rfl, by decide, rfl, Or.inl wd_791⟩
theorem i_M_newPage_10 : decode m_M_newPage.2.1 10 = .ok (.iconst 1, 1) := by decide +kernel
theorem i_M_newPage_11 : decode m_M_newPage.2.1 11 = .ok (.iadd, 1) := by decide +kernel
theorem i_M_newPage_12 : qPut m_M_newPage 12 5 10 := ⟨39, _, by decide +kernel, rfl, by decide, rfl, Or.inl rfl, Or.inl wd_791⟩
theorem i_M_newPage_15 : decode m_M_newPage.2.1 15 = .ok (.aload_n 0, 1) := by decide +kernel
theorem i_M_newPage_16 : qGet m_M_newPage 16 5 1 := ⟨7, _, by decide +kernel, rfl, by decide, rfl, Or.inl wd_782⟩
theorem i_M_newPage_19 : decode m_M_newPage.2.1 19 = .ok (.iload_n 3, 1) := by decide +kernel
theorem i_M_newPage_20 : decode m_M_newPage.2.1 20 = .ok (.iload_n 1, 1) := by decide +kernel
theorem i_M_newPage_21 : decode m_M_newPage.2.1 21 = .ok (.iastore, 1) := by decide +kernel
theorem i_M_newPage_22 : decode m_M_newPage.2.1 22 = .ok (.aload_n 0, 1) := by decide +kernel
theorem i_M_newPage_23 : qGet m_M_newPage 23 5 2 := ⟨13, _, by decide +kernel, rfl, by decide, rfl, Or.inl wd_783⟩
theorem i_M_newPage_26 : decode m_M_newPage.2.1 26 = .ok (.iload_n 3, 1) := by decide +kernel
theorem i_M_newPage_27 : decode m_M_newPage.2.1 27 = .ok (.iload_n 2, 1) := by decide +kernel
theorem i_M_newPage_28 : decode m_M_newPage.2.1 28 = .ok (.iastore, 1) := by decide +kernel
theorem i_M_newPage_29 : decode m_M_newPage.2.1 29 = .ok (.aload_n 0, 1) := by decide +kernel
theorem i_M_newPage_30 : qGet m_M_newPage 30 5 3 := ⟨16, _, by decide +kernel, rfl, by decide, rfl, Or.inl wd_784⟩
theorem i_M_newPage_33 : decode m_M_newPage.2.1 33 = .ok (.iload_n 3, 1) := by decide +kernel
theorem i_M_newPage_34 : decode m_M_newPage.2.1 34 = .ok (.iconst (-1), 1) := by decide +kernel
theorem i_M_newPage_35 : decode m_M_newPage.2.1 35 = .ok (.iastore, 1) := by decide +kernel
theorem i_M_newPage_36 : decode m_M_newPage.2.1 36 = .ok (.aload_n 0, 1) := by decide +kernel
theorem i_M_newPage_37 : qGet m_M_newPage 37 5 4 := ⟨19, _, by decide +kernel, rfl, by decide, rfl, Or.inl wd_785⟩
theorem i_M_newPage_40 : decode m_M_newPage.2.1 40 = .ok (.iload_n 3, 1) := by decide +kernel
theorem i_M_newPage_41 : decode m_M_newPage.2.1 41 = .ok (.iconst 0, 1) := by decide +kernel
theorem i_M_newPage_42 : decode m_M_newPage.2.1 42 = .ok (.iastore, 1) := by decide +kernel
theorem i_M_newPage_43 : decode m_M_newPage.2.1 43 = .ok (.aload_n 0, 1) := by decide +kernel
theorem i_M_newPage_44 : qGet m_M_newPage 44 5 5 := ⟨22, _, by decide +kernel, rfl, by decide, rfl, Or.inl wd_786⟩
theorem i_M_newPage_47 : decode m_M_newPage.2.1 47 = .ok (.iload_n 3, 1) := by decide +kernel
theorem i_M_newPage_48 : decode m_M_newPage.2.1 48 = .ok (.iconst 1, 1) := by decide +kernel
theorem i_M_newPage_49 : decode m_M_newPage.2.1 49 = .ok (.bastore, 1) := by decide +kernel
theorem i_M_newPage_50 : decode m_M_newPage.2.1 50 = .ok (.iload_n 3, 1) := by decide +kernel
theorem i_M_newPage_51 : decode m_M_newPage.2.1 51 = .ok (.ireturn, 1) := by decide +kernel
theorem i_M_append_0 : decode m_M_append.2.1 0 = .ok (.bipush 16, 2) := by decide +kernel
theorem i_M_append_2 : decode m_M_append.2.1 2 = .ok (.iload_n 1, 1) := by decide +kernel
theorem i_M_append_3 : decode m_M_append.2.1 3 = .ok (.imul, 1) := by decide +kernel
theorem i_M_append_4 : decode m_M_append.2.1 4 = .ok (.aload_n 0, 1) := by decide +kernel
theorem i_M_append_5 : qGet m_M_append 5 5 4 := ⟨19, _, by decide +kernel, rfl, by decide, rfl, Or.inl wd_785⟩
theorem i_M_append_8 : decode m_M_append.2.1 8 = .ok (.iload_n 1, 1) := by decide +kernel
theorem i_M_append_9 : decode m_M_append.2.1 9 = .ok (.iaload, 1) := by decide +kernel
theorem i_M_append_10 : decode m_M_append.2.1 10 = .ok (.iadd, 1) := by decide +kernel
theorem i_M_append_11 : decode m_M_append.2.1 11 = .ok (.istore 6, 2) := by decide +kernel
theorem i_M_append_13 : decode m_M_append.2.1 13 = .ok (.aload_n 0, 1) := by decide +kernel
theorem i_M_append_14 : qGet m_M_append 14 5 6 := ⟨26, _, by decide +kernel, rfl, by decide, rfl, Or.inl wd_787⟩
theorem i_M_append_17 : decode m_M_append.2.1 17 = .ok (.iload 6, 2) := by decide +kernel
theorem i_M_append_19 : decode m_M_append.2.1 19 = .ok (.iload_n 2, 1) := by decide +kernel
theorem i_M_append_20 : decode m_M_append.2.1 20 = .ok (.iastore, 1) := by decide +kernel
theorem i_M_append_21 : decode m_M_append.2.1 21 = .ok (.aload_n 0, 1) := by decide +kernel
theorem i_M_append_22 : qGet m_M_append 22 5 7 := ⟨29, _, by decide +kernel, rfl, by decide, rfl, Or.inl wd_788⟩
theorem i_M_append_25 : decode m_M_append.2.1 25 = .ok (.iload 6, 2) := by decide +kernel
theorem i_M_append_27 : decode m_M_append.2.1 27 = .ok (.iload 5, 2) := by decide +kernel
theorem i_M_append_29 : decode m_M_append.2.1 29 = .ok (.iastore, 1) := by decide +kernel
theorem i_M_append_30 : decode m_M_append.2.1 30 = .ok (.aload_n 0, 1) := by decide +kernel
theorem i_M_append_31 : qGet m_M_append 31 5 8 := ⟨32, _, by decide +kernel, rfl, by decide, rfl, Or.inl wd_789⟩
theorem i_M_append_34 : decode m_M_append.2.1 34 = .ok (.iload 6, 2) := by decide +kernel
theorem i_M_append_36 : decode m_M_append.2.1 36 = .ok (.iconst (-1), 1) := by decide +kernel
theorem i_M_append_37 : decode m_M_append.2.1 37 = .ok (.iastore, 1) := by decide +kernel
theorem i_M_append_38 : decode m_M_append.2.1 38 = .ok (.aload_n 0, 1) := by decide +kernel
theorem i_M_append_39 : qGet m_M_append 39 5 9 := ⟨35, _, by decide +kernel, rfl, by decide, rfl, Or.inl wd_790⟩
theorem i_M_append_42 : decode m_M_append.2.1 42 = .ok (.iload 6, 2) := by decide +kernel
theorem i_M_append_44 : decode m_M_append.2.1 44 = .ok (.lload_n 3, 1) := by decide +kernel
theorem i_M_append_45 : decode m_M_append.2.1 45 = .ok (.lastore, 1) := by decide +kernel
theorem i_M_append_46 : decode m_M_append.2.1 46 = .ok (.aload_n 0, 1) := by decide +kernel
theorem i_M_append_47 : qGet m_M_append 47 5 4 := ⟨19, _, by decide +kernel, rfl, by decide, rfl, Or.inl wd_785⟩
theorem i_M_append_50 : decode m_M_append.2.1 50 = .ok (.iload_n 1, 1) := by decide +kernel
theorem i_M_append_51 : decode m_M_append.2.1 51 = .ok (.dup2, 1) := by decide +kernel
theorem i_M_append_52 : decode m_M_append.2.1 52 = .ok (.iaload, 1) := by decide +kernel
theorem i_M_append_53 : decode m_M_append.2.1 53 = .ok (.iconst 1, 1) := by decide +kernel
theorem i_M_append_54 : decode m_M_append.2.1 54 = .ok (.iadd, 1) := by decide +kernel
theorem i_M_append_55 : decode m_M_append.2.1 55 = .ok (.iastore, 1) := by decide +kernel
theorem i_M_append_56 : decode m_M_append.2.1 56 = .ok (.return_, 1) := by decide +kernel
theorem i_M_list_0 : decode m_M_list.2.1 0 = .ok (.aload_n 0, 1) := by decide +kernel
theorem i_M_list_1 : qGet m_M_list 1 5 33 := ⟨132, _, by decide +kernel, rfl, by decide, rfl, Or.inl wd_814⟩
theorem i_M_list_4 : decode m_M_list.2.1 4 = .ok (.istore 4, 2) := by decide +kernel
theorem i_M_list_6 : decode m_M_list.2.1 6 = .ok (.iload 4, 2) := by decide +kernel
theorem i_M_list_8 : decode m_M_list.2.1 8 = .ok (.ifCond .le 54, 3) := by decide +kernel
theorem i_M_list_11 : decode m_M_list.2.1 11 = .ok (.aload_n 0, 1) := by decide +kernel
theorem i_M_list_12 : qGet m_M_list 12 5 34 := ⟨82, _, by decide +kernel, rfl, by decide, rfl, Or.inl wd_815⟩
theorem i_M_list_15 : decode m_M_list.2.1 15 = .ok (.iload 4, 2) := by decide +kernel
theorem i_M_list_17 : decode m_M_list.2.1 17 = .ok (.iconst 1, 1) := by decide +kernel
theorem i_M_list_18 : decode m_M_list.2.1 18 = .ok (.isub, 1) := by decide +kernel
theorem i_M_list_19 : decode m_M_list.2.1 19 = .ok (.iaload, 1) := by decide +kernel
theorem i_M_list_20 : decode m_M_list.2.1 20 = .ok (.iload_n 1, 1) := by decide +kernel
theorem i_M_list_21 : decode m_M_list.2.1 21 = .ok (.if_icmp .le 41, 3) := by decide +kernel
theorem i_M_list_24 : decode m_M_list.2.1 24 = .ok (.aload_n 0, 1) := by decide +kernel
theorem i_M_list_25 : qGet m_M_list 25 5 34 := ⟨82, _, by decide +kernel, rfl, by decide, rfl, Or.inl wd_815⟩
theorem i_M_list_28 : decode m_M_list.2.1 28 = .ok (.iload 4, 2) := by decide +kernel
theorem i_M_list_30 : decode m_M_list.2.1 30 = .ok (.aload_n 0, 1) := by decide +kernel
theorem i_M_list_31 : qGet m_M_list 31 5 34 := ⟨82, _, by decide +kernel, rfl, by decide, rfl, Or.inl wd_815⟩
theorem i_M_list_34 : decode m_M_list.2.1 34 = .ok (.iload 4, 2) := by decide +kernel
theorem i_M_list_36 : decode m_M_list.2.1 36 = .ok (.iconst 1, 1) := by decide +kernel
theorem i_M_list_37 : decode m_M_list.2.1 37 = .ok (.isub, 1) := by decide +kernel
theorem i_M_list_38 : decode m_M_list.2.1 38 = .ok (.iaload, 1) := by decide +kernel
theorem i_M_list_39 : decode m_M_list.2.1 39 = .ok (.iastore, 1) := by decide +kernel
theorem i_M_list_40 : decode m_M_list.2.1 40 = .ok (.aload_n 0, 1) := by decide +kernel
theorem i_M_list_41 : qGet m_M_list 41 5 35 := ⟨85, _, by decide +kernel, rfl, by decide, rfl, Or.inl wd_816⟩
theorem i_M_list_44 : decode m_M_list.2.1 44 = .ok (.iload 4, 2) := by decide +kernel
theorem i_M_list_46 : decode m_M_list.2.1 46 = .ok (.aload_n 0, 1) := by decide +kernel
theorem i_M_list_47 : qGet m_M_list 47 5 35 := ⟨85, _, by decide +kernel, rfl, by decide, rfl, Or.inl wd_816⟩
theorem i_M_list_50 : decode m_M_list.2.1 50 = .ok (.iload 4, 2) := by decide +kernel
theorem i_M_list_52 : decode m_M_list.2.1 52 = .ok (.iconst 1, 1) := by decide +kernel
theorem i_M_list_53 : decode m_M_list.2.1 53 = .ok (.isub, 1) := by decide +kernel
theorem i_M_list_54 : decode m_M_list.2.1 54 = .ok (.laload, 1) := by decide +kernel
theorem i_M_list_55 : decode m_M_list.2.1 55 = .ok (.lastore, 1) := by decide +kernel
theorem i_M_list_56 : decode m_M_list.2.1 56 = .ok (.iinc 4 (-1), 3) := by decide +kernel
theorem i_M_list_59 : decode m_M_list.2.1 59 = .ok (.goto (-53), 3) := by decide +kernel
theorem i_M_list_62 : decode m_M_list.2.1 62 = .ok (.aload_n 0, 1) := by decide +kernel
theorem i_M_list_63 : qGet m_M_list 63 5 34 := ⟨82, _, by decide +kernel, rfl, by decide, rfl, Or.inl wd_815⟩
theorem i_M_list_66 : decode m_M_list.2.1 66 = .ok (.iload 4, 2) := by decide +kernel
theorem i_M_list_68 : decode m_M_list.2.1 68 = .ok (.iload_n 1, 1) := by decide +kernel
theorem i_M_list_69 : decode m_M_list.2.1 69 = .ok (.iastore, 1) := by decide +kernel
theorem i_M_list_70 : decode m_M_list.2.1 70 = .ok (.aload_n 0, 1) := by decide +kernel
theorem i_M_list_71 : qGet m_M_list 71 5 35 := ⟨85, _, by decide +kernel, rfl, by decide, rfl, Or.inl wd_816⟩
theorem i_M_list_74 : decode m_M_list.2.1 74 = .ok (.iload 4, 2) := by decide +kernel
theorem i_M_list_76 : decode m_M_list.2.1 76 = .ok (.lload_n 2, 1) := by decide +kernel
theorem i_M_list_77 : decode m_M_list.2.1 77 = .ok (.lastore, 1) := by decide +kernel
theorem i_M_list_78 : decode m_M_list.2.1 78 = .ok (.aload_n 0, 1) := by decide +kernel
theorem i_M_list_79 : decode m_M_list.2.1 79 = .ok (.dup, 1) := by decide +kernel
theorem i_M_list_80 : qGet m_M_list 80 5 33 := ⟨132, _, by decide +kernel, rfl, by decide, rfl, Or.inl wd_814⟩
theorem i_M_list_83 : decode m_M_list.2.1 83 = .ok (.iconst 1, 1) := by decide +kernel
theorem i_M_list_84 : decode m_M_list.2.1 84 = .ok (.iadd, 1) := by decide +kernel
theorem i_M_list_85 : qPut m_M_list 85 5 33 := ⟨132, _, by decide +kernel, rfl, by decide, rfl, Or.inl rfl, Or.inl wd_814⟩
theorem i_M_list_88 : decode m_M_list.2.1 88 = .ok (.return_, 1) := by decide +kernel
theorem i_M_listAlive_0 : decode m_M_listAlive.2.1 0 = .ok (.bipush 16, 2) := by decide +kernel
theorem i_M_listAlive_2 : decode m_M_listAlive.2.1 2 = .ok (.iload_n 1, 1) := by decide +kernel
theorem i_M_listAlive_3 : decode m_M_listAlive.2.1 3 = .ok (.imul, 1) := by decide +kernel
theorem i_M_listAlive_4 : decode m_M_listAlive.2.1 4 = .ok (.istore_n 3, 1) := by decide +kernel
theorem i_M_listAlive_5 : decode m_M_listAlive.2.1 5 = .ok (.iload_n 3, 1) := by decide +kernel
theorem i_M_listAlive_6 : decode m_M_listAlive.2.1 6 = .ok (.bipush 16, 2) := by decide +kernel
theorem i_M_listAlive_8 : decode m_M_listAlive.2.1 8 = .ok (.iload_n 1, 1) := by decide +kernel
theorem i_M_listAlive_9 : decode m_M_listAlive.2.1 9 = .ok (.imul, 1) := by decide +kernel
theorem i_M_listAlive_10 : decode m_M_listAlive.2.1 10 = .ok (.aload_n 0, 1) := by decide +kernel
theorem i_M_listAlive_11 : qGet m_M_listAlive 11 5 4 := ⟨19, _, by decide +kernel, rfl, by decide, rfl, Or.inl wd_785⟩
theorem i_M_listAlive_14 : decode m_M_listAlive.2.1 14 = .ok (.iload_n 1, 1) := by decide +kernel
theorem i_M_listAlive_15 : decode m_M_listAlive.2.1 15 = .ok (.iaload, 1) := by decide +kernel
theorem i_M_listAlive_16 : decode m_M_listAlive.2.1 16 = .ok (.iadd, 1) := by decide +kernel
theorem i_M_listAlive_17 : decode m_M_listAlive.2.1 17 = .ok (.if_icmp .ge 50, 3) := by decide +kernel
theorem i_M_listAlive_20 : decode m_M_listAlive.2.1 20 = .ok (.aload_n 0, 1) := by decide +kernel
theorem i_M_listAlive_21 : decode m_M_listAlive.2.1 21 = .ok (.iload_n 3, 1) := by decide +kernel
theorem i_M_listAlive_22 : decode m_M_listAlive.2.1 22 = .ok (.iload_n 2, 1) := by decide +kernel
theorem i_M_listAlive_23 : qInv m_M_listAlive 23 m_M_isAlive 5 2 := ⟨124, _, by decide +kernel, rfl, rfl, wd_938, wd_940, ws_24, by decide +kernel⟩
theorem i_M_listAlive_26 : decode m_M_listAlive.2.1 26 = .ok (.ifCond .eq 35, 3) := by decide +kernel
theorem i_M_listAlive_29 : decode m_M_listAlive.2.1 29 = .ok (.iload_n 3, 1) := by decide +kernel
theorem i_M_listAlive_30 : decode m_M_listAlive.2.1 30 = .ok (.aload_n 0, 1) := by decide +kernel
theorem i_M_listAlive_31 : qGet m_M_listAlive 31 5 28 := ⟨135, _, by decide +kernel, rfl, by decide, rfl, Or.inl wd_809⟩
theorem i_M_listAlive_34 : decode m_M_listAlive.2.1 34 = .ok (.if_icmp .eq 27, 3) := by decide +kernel
theorem i_M_listAlive_37 : decode m_M_listAlive.2.1 37 = .ok (.iload_n 3, 1) := by decide +kernel
theorem i_M_listAlive_38 : decode m_M_listAlive.2.1 38 = .ok (.aload_n 0, 1) := by decide +kernel
theorem i_M_listAlive_39 : qGet m_M_listAlive 39 5 29 := ⟨138, _, by decide +kernel, rfl, by decide, rfl, Or.inl wd_810⟩
theorem i_M_listAlive_42 : decode m_M_listAlive.2.1 42 = .ok (.if_icmp .eq 19, 3) := by decide +kernel
theorem i_M_listAlive_45 : decode m_M_listAlive.2.1 45 = .ok (.aload_n 0, 1) := by decide +kernel
theorem i_M_listAlive_46 : decode m_M_listAlive.2.1 46 = .ok (.aload_n 0, 1) := by decide +kernel
theorem i_M_listAlive_47 : qGet m_M_listAlive 47 5 6 := ⟨26, _, by decide +kernel, rfl, by decide, rfl, Or.inl wd_787⟩
theorem i_M_listAlive_50 : decode m_M_listAlive.2.1 50 = .ok (.iload_n 3, 1) := by decide +kernel
theorem i_M_listAlive_51 : decode m_M_listAlive.2.1 51 = .ok (.iaload, 1) := by decide +kernel
theorem i_M_listAlive_52 : decode m_M_listAlive.2.1 52 = .ok (.aload_n 0, 1) := by decide +kernel
theorem i_M_listAlive_53 : qGet m_M_listAlive 53 5 9 := ⟨35, _, by decide +kernel, rfl, by decide, rfl, Or.inl wd_790⟩
theorem i_M_listAlive_56 : decode m_M_listAlive.2.1 56 = .ok (.iload_n 3, 1) := by decide +kernel
theorem i_M_listAlive_57 : decode m_M_listAlive.2.1 57 = .ok (.laload, 1) := by decide +kernel
theorem i_M_listAlive_58 : qInv m_M_listAlive 58 m_M_list 5 2 := ⟨141, _, by decide +kernel, rfl, rfl, wd_954, wd_956, ws_28, by decide +kernel⟩
theorem i_M_listAlive_61 : decode m_M_listAlive.2.1 61 = .ok (.iinc 3 1, 3) := by decide +kernel
theorem i_M_listAlive_64 : decode m_M_listAlive.2.1 64 = .ok (.goto (-59), 3) := by decide +kernel
theorem i_M_listAlive_67 : decode m_M_listAlive.2.1 67 = .ok (.return_, 1) := by decide +kernel
theorem i_M_update_0 : decode m_M_update.2.1 0 = .ok (.aload_n 0, 1) := by decide +kernel
theorem i_M_update_1 : qGet m_M_update 1 5 12 := ⟨145, _, by decide +kernel, rfl, by decide, rfl, Or.inl wd_793⟩
theorem i_M_update_4 : decode m_M_update.2.1 4 = .ok (.iconst 1, 1) := by decide +kernel
theorem i_M_update_5 : decode m_M_update.2.1 5 = .ok (.iadd, 1) := by decide +kernel
theorem i_M_update_6 : decode m_M_update.2.1 6 = .ok (.istore 5, 2) := by decide +kernel
theorem i_M_update_8 : decode m_M_update.2.1 8 = .ok (.aload_n 0, 1) := by decide +kernel
theorem i_M_update_9 : qGet m_M_update 9 5 14 := ⟨46, _, by decide +kernel, rfl, by decide, rfl, Or.inl wd_795⟩
theorem i_M_update_12 : decode m_M_update.2.1 12 = .ok (.aload_n 0, 1) := by decide +kernel
theorem i_M_update_13 : qGet m_M_update 13 5 12 := ⟨145, _, by decide +kernel, rfl, by decide, rfl, Or.inl wd_793⟩
theorem i_M_update_16 : decode m_M_update.2.1 16 = .ok (.iaload, 1) := by decide +kernel
theorem i_M_update_17 : decode m_M_update.2.1 17 = .ok (.istore 6, 2) := by decide +kernel
theorem i_M_update_19 : decode m_M_update.2.1 19 = .ok (.iload 6, 2) := by decide +kernel
theorem i_M_update_21 : decode m_M_update.2.1 21 = .ok (.istore 7, 2) := by decide +kernel
theorem i_M_update_23 : decode m_M_update.2.1 23 = .ok (.aload_n 0, 1) := by decide +kernel
theorem i_M_update_24 : qGet m_M_update 24 5 36 := ⟨88, _, by decide +kernel, rfl, by decide, rfl, Or.inl wd_817⟩
theorem i_M_update_27 : decode m_M_update.2.1 27 = .ok (.aload_n 0, 1) := by decide +kernel
theorem i_M_update_28 : qGet m_M_update 28 5 1 := ⟨7, _, by decide +kernel, rfl, by decide, rfl, Or.inl wd_782⟩
theorem i_M_update_31 : decode m_M_update.2.1 31 = .ok (.iload 6, 2) := by decide +kernel
theorem i_M_update_33 : decode m_M_update.2.1 33 = .ok (.iaload, 1) := by decide +kernel
theorem i_M_update_34 : decode m_M_update.2.1 34 = .ok (.iload 6, 2) := by decide +kernel
theorem i_M_update_36 : decode m_M_update.2.1 36 = .ok (.iastore, 1) := by decide +kernel
theorem i_M_update_37 : decode m_M_update.2.1 37 = .ok (.aload_n 0, 1) := by decide +kernel
theorem i_M_update_38 : qGet m_M_update 38 5 1 := ⟨7, _, by decide +kernel, rfl, by decide, rfl, Or.inl wd_782⟩
theorem i_M_update_41 : decode m_M_update.2.1 41 = .ok (.iload 6, 2) := by decide +kernel
theorem i_M_update_43 : decode m_M_update.2.1 43 = .ok (.iaload, 1) := by decide +kernel
theorem i_M_update_44 : decode m_M_update.2.1 44 = .ok (.ifCond .le 39, 3) := by decide +kernel
theorem i_M_update_47 : decode m_M_update.2.1 47 = .ok (.aload_n 0, 1) := by decide +kernel
theorem i_M_update_48 : qGet m_M_update 48 5 9 := ⟨35, _, by decide +kernel, rfl, by decide, rfl, Or.inl wd_790⟩
theorem i_M_update_51 : decode m_M_update.2.1 51 = .ok (.aload_n 0, 1) := by decide +kernel
theorem i_M_update_52 : decode m_M_update.2.1 52 = .ok (.iload 6, 2) := by decide +kernel
theorem i_M_update_54 : decode m_M_update.2.1 54 = .ok (.aload_n 0, 1) := by decide +kernel
theorem i_M_update_55 : qGet m_M_update 55 5 12 := ⟨145, _, by decide +kernel, rfl, by decide, rfl, Or.inl wd_793⟩
theorem i_M_update_58 : decode m_M_update.2.1 58 = .ok (.iload_n 1, 1) := by decide +kernel
theorem i_M_update_59 : qInv m_M_update 59 m_M_standing 5 3 := ⟨128, _, by decide +kernel, rfl, rfl, wd_934, wd_936, ws_23, by decide +kernel⟩
theorem i_M_update_62 : decode m_M_update.2.1 62 = .ok (.laload, 1) := by decide +kernel
theorem i_M_update_63 : decode m_M_update.2.1 63 = .ok (.l2i, 1) := by decide +kernel
theorem i_M_update_64 : decode m_M_update.2.1 64 = .ok (.istore 6, 2) := by decide +kernel
theorem i_M_update_66 : decode m_M_update.2.1 66 = .ok (.aload_n 0, 1) := by decide +kernel
theorem i_M_update_67 : qGet m_M_update 67 5 36 := ⟨88, _, by decide +kernel, rfl, by decide, rfl, Or.inl wd_817⟩
theorem i_M_update_70 : decode m_M_update.2.1 70 = .ok (.aload_n 0, 1) := by decide +kernel
theorem i_M_update_71 : qGet m_M_update 71 5 1 := ⟨7, _, by decide +kernel, rfl, by decide, rfl, Or.inl wd_782⟩
theorem i_M_update_74 : decode m_M_update.2.1 74 = .ok (.iload 6, 2) := by decide +kernel
theorem i_M_update_76 : decode m_M_update.2.1 76 = .ok (.iaload, 1) := by decide +kernel
theorem i_M_update_77 : decode m_M_update.2.1 77 = .ok (.iload 6, 2) := by decide +kernel
theorem i_M_update_79 : decode m_M_update.2.1 79 = .ok (.iastore, 1) := by decide +kernel
theorem i_M_update_80 : decode m_M_update.2.1 80 = .ok (.goto (-43), 3) := by decide +kernel
theorem i_M_update_83 : decode m_M_update.2.1 83 = .ok (.aload_n 0, 1) := by decide +kernel
theorem i_M_update_84 : decode m_M_update.2.1 84 = .ok (.aload_n 0, 1) := by decide +kernel
theorem i_M_update_85 : decode m_M_update.2.1 85 = .ok (.aload_n 0, 1) := by decide +kernel
theorem i_M_update_86 : qGet m_M_update 86 5 12 := ⟨145, _, by decide +kernel, rfl, by decide, rfl, Or.inl wd_793⟩
theorem i_M_update_89 : decode m_M_update.2.1 89 = .ok (.iload_n 1, 1) := by decide +kernel
theorem i_M_update_90 : qInv m_M_update 90 m_M_leafEntry 5 2 := ⟨148, _, by decide +kernel, rfl, rfl, wd_942, wd_944, ws_25, by decide +kernel⟩
theorem i_M_update_93 : qPut m_M_update 93 5 28 := ⟨135, _, by decide +kernel, rfl, by decide, rfl, Or.inl rfl, Or.inl wd_809⟩
theorem i_M_update_96 : decode m_M_update.2.1 96 = .ok (.aload_n 0, 1) := by decide +kernel
theorem i_M_update_97 : decode m_M_update.2.1 97 = .ok (.iconst (-1), 1) := by decide +kernel
theorem i_M_update_98 : qPut m_M_update 98 5 29 := ⟨138, _, by decide +kernel, rfl, by decide, rfl, Or.inl rfl, Or.inl wd_810⟩
theorem i_M_update_101 : decode m_M_update.2.1 101 = .ok (.aload_n 0, 1) := by decide +kernel
theorem i_M_update_102 : decode m_M_update.2.1 102 = .ok (.iload_n 2, 1) := by decide +kernel
theorem i_M_update_103 : decode m_M_update.2.1 103 = .ok (.ifCond .eq 7, 3) := by decide +kernel
theorem i_M_update_106 : decode m_M_update.2.1 106 = .ok (.iconst 1, 1) := by decide +kernel
theorem i_M_update_107 : decode m_M_update.2.1 107 = .ok (.goto 4, 3) := by decide +kernel
theorem i_M_update_110 : decode m_M_update.2.1 110 = .ok (.iconst 0, 1) := by decide +kernel
theorem i_M_update_111 : qPut m_M_update 111 5 30 := ⟨152, _, by decide +kernel, rfl, by decide, rfl, Or.inl rfl, Or.inl wd_811⟩
theorem i_M_update_114 : decode m_M_update.2.1 114 = .ok (.aload_n 0, 1) := by decide +kernel
theorem i_M_update_115 : qGet m_M_update 115 5 31 := ⟨76, _, by decide +kernel, rfl, by decide, rfl, Or.inl wd_812⟩
theorem i_M_update_118 : decode m_M_update.2.1 118 = .ok (.iconst 0, 1) := by decide +kernel
theorem i_M_update_119 : decode m_M_update.2.1 119 = .ok (.iload_n 1, 1) := by decide +kernel
theorem i_M_update_120 : decode m_M_update.2.1 120 = .ok (.iastore, 1) := by decide +kernel
theorem i_M_update_121 : decode m_M_update.2.1 121 = .ok (.aload_n 0, 1) := by decide +kernel
theorem i_M_update_122 : qGet m_M_update 122 5 32 := ⟨79, _, by decide +kernel, rfl, by decide, rfl, Or.inl wd_813⟩
theorem i_M_update_125 : decode m_M_update.2.1 125 = .ok (.iconst 0, 1) := by decide +kernel
theorem i_M_update_126 : decode m_M_update.2.1 126 = .ok (.lload_n 3, 1) := by decide +kernel
theorem i_M_update_127 : decode m_M_update.2.1 127 = .ok (.lastore, 1) := by decide +kernel
theorem i_M_update_128 : decode m_M_update.2.1 128 = .ok (.aload_n 0, 1) := by decide +kernel
theorem i_M_update_129 : qGet m_M_update 129 5 14 := ⟨46, _, by decide +kernel, rfl, by decide, rfl, Or.inl wd_795⟩
theorem i_M_update_132 : decode m_M_update.2.1 132 = .ok (.iload 5, 2) := by decide +kernel
theorem i_M_update_134 : decode m_M_update.2.1 134 = .ok (.iload 7, 2) := by decide +kernel
theorem i_M_update_136 : decode m_M_update.2.1 136 = .ok (.iastore, 1) := by decide +kernel
theorem i_M_update_137 : decode m_M_update.2.1 137 = .ok (.iconst 0, 1) := by decide +kernel
theorem i_M_update_138 : decode m_M_update.2.1 138 = .ok (.istore 8, 2) := by decide +kernel
theorem i_M_update_140 : decode m_M_update.2.1 140 = .ok (.iload 8, 2) := by decide +kernel
theorem i_M_update_142 : decode m_M_update.2.1 142 = .ok (.ifCond .lt 49, 3) := by decide +kernel
theorem i_M_update_145 : decode m_M_update.2.1 145 = .ok (.aload_n 0, 1) := by decide +kernel
theorem i_M_update_146 : decode m_M_update.2.1 146 = .ok (.aload_n 0, 1) := by decide +kernel
theorem i_M_update_147 : qGet m_M_update 147 5 36 := ⟨88, _, by decide +kernel, rfl, by decide, rfl, Or.inl wd_817⟩
theorem i_M_update_150 : decode m_M_update.2.1 150 = .ok (.iload 8, 2) := by decide +kernel
theorem i_M_update_152 : decode m_M_update.2.1 152 = .ok (.iaload, 1) := by decide +kernel
theorem i_M_update_153 : decode m_M_update.2.1 153 = .ok (.iload 5, 2) := by decide +kernel
theorem i_M_update_155 : decode m_M_update.2.1 155 = .ok (.aload_n 0, 1) := by decide +kernel
theorem i_M_update_156 : qGet m_M_update 156 5 36 := ⟨88, _, by decide +kernel, rfl, by decide, rfl, Or.inl wd_817⟩
theorem i_M_update_159 : decode m_M_update.2.1 159 = .ok (.iload 8, 2) := by decide +kernel
theorem i_M_update_161 : decode m_M_update.2.1 161 = .ok (.iaload, 1) := by decide +kernel
theorem i_M_update_162 : decode m_M_update.2.1 162 = .ok (.iload 7, 2) := by decide +kernel
theorem i_M_update_164 : decode m_M_update.2.1 164 = .ok (.if_icmp .ne 7, 3) := by decide +kernel
theorem i_M_update_167 : decode m_M_update.2.1 167 = .ok (.iconst 1, 1) := by decide +kernel
theorem i_M_update_168 : decode m_M_update.2.1 168 = .ok (.goto 4, 3) := by decide +kernel
theorem i_M_update_171 : decode m_M_update.2.1 171 = .ok (.iconst 0, 1) := by decide +kernel
theorem i_M_update_172 : qInv m_M_update 172 m_M_change 5 3 := ⟨155, _, by decide +kernel, rfl, rfl, wd_946, wd_948, ws_26, by decide +kernel⟩
theorem i_M_update_175 : decode m_M_update.2.1 175 = .ok (.ifCond .eq 10, 3) := by decide +kernel
theorem i_M_update_178 : decode m_M_update.2.1 178 = .ok (.iload 8, 2) := by decide +kernel
theorem i_M_update_180 : decode m_M_update.2.1 180 = .ok (.iconst 1, 1) := by decide +kernel
theorem i_M_update_181 : decode m_M_update.2.1 181 = .ok (.iadd, 1) := by decide +kernel
theorem i_M_update_182 : decode m_M_update.2.1 182 = .ok (.goto 4, 3) := by decide +kernel
theorem i_M_update_185 : decode m_M_update.2.1 185 = .ok (.iconst (-1), 1) := by decide +kernel
theorem i_M_update_186 : decode m_M_update.2.1 186 = .ok (.istore 8, 2) := by decide +kernel
theorem i_M_update_188 : decode m_M_update.2.1 188 = .ok (.goto (-48), 3) := by decide +kernel
theorem i_M_update_191 : decode m_M_update.2.1 191 = .ok (.aload_n 0, 1) := by decide +kernel
theorem i_M_update_192 : decode m_M_update.2.1 192 = .ok (.iload 5, 2) := by decide +kernel
theorem i_M_update_194 : qPut m_M_update 194 5 12 := ⟨145, _, by decide +kernel, rfl, by decide, rfl, Or.inl rfl, Or.inl wd_793⟩
theorem i_M_update_197 : decode m_M_update.2.1 197 = .ok (.return_, 1) := by decide +kernel
theorem i_M_change_0 : decode m_M_change.2.1 0 = .ok (.aload_n 0, 1) := by decide +kernel
theorem i_M_change_1 : decode m_M_change.2.1 1 = .ok (.iconst 0, 1) := by decide +kernel
theorem i_M_change_2 : qPut m_M_change 2 5 33 := ⟨132, _, by decide +kernel, rfl, by decide, rfl, Or.inl rfl, Or.inl wd_814⟩
theorem i_M_change_5 : decode m_M_change.2.1 5 = .ok (.aload_n 0, 1) := by decide +kernel
theorem i_M_change_6 : decode m_M_change.2.1 6 = .ok (.iload_n 1, 1) := by decide +kernel
theorem i_M_change_7 : decode m_M_change.2.1 7 = .ok (.iload_n 2, 1) := by decide +kernel
theorem i_M_change_8 : decode m_M_change.2.1 8 = .ok (.iconst 1, 1) := by decide +kernel
theorem i_M_change_9 : decode m_M_change.2.1 9 = .ok (.isub, 1) := by decide +kernel
theorem i_M_change_10 : qInv m_M_change 10 m_M_listAlive 5 2 := ⟨159, _, by decide +kernel, rfl, rfl, wd_950, wd_952, ws_27, by decide +kernel⟩
theorem i_M_change_13 : decode m_M_change.2.1 13 = .ok (.iconst 0, 1) := by decide +kernel
theorem i_M_change_14 : decode m_M_change.2.1 14 = .ok (.istore 4, 2) := by decide +kernel
theorem i_M_change_16 : decode m_M_change.2.1 16 = .ok (.iload 4, 2) := by decide +kernel
theorem i_M_change_18 : decode m_M_change.2.1 18 = .ok (.aload_n 0, 1) := by decide +kernel
theorem i_M_change_19 : qGet m_M_change 19 5 30 := ⟨152, _, by decide +kernel, rfl, by decide, rfl, Or.inl wd_811⟩
theorem i_M_change_22 : decode m_M_change.2.1 22 = .ok (.if_icmp .ge 27, 3) := by decide +kernel
theorem i_M_change_25 : decode m_M_change.2.1 25 = .ok (.aload_n 0, 1) := by decide +kernel
theorem i_M_change_26 : decode m_M_change.2.1 26 = .ok (.aload_n 0, 1) := by decide +kernel
theorem i_M_change_27 : qGet m_M_change 27 5 31 := ⟨76, _, by decide +kernel, rfl, by decide, rfl, Or.inl wd_812⟩
theorem i_M_change_30 : decode m_M_change.2.1 30 = .ok (.iload 4, 2) := by decide +kernel
theorem i_M_change_32 : decode m_M_change.2.1 32 = .ok (.iaload, 1) := by decide +kernel
theorem i_M_change_33 : decode m_M_change.2.1 33 = .ok (.aload_n 0, 1) := by decide +kernel
theorem i_M_change_34 : qGet m_M_change 34 5 32 := ⟨79, _, by decide +kernel, rfl, by decide, rfl, Or.inl wd_813⟩
theorem i_M_change_37 : decode m_M_change.2.1 37 = .ok (.iload 4, 2) := by decide +kernel
theorem i_M_change_39 : decode m_M_change.2.1 39 = .ok (.laload, 1) := by decide +kernel
theorem i_M_change_40 : qInv m_M_change 40 m_M_list 5 2 := ⟨141, _, by decide +kernel, rfl, rfl, wd_954, wd_956, ws_28, by decide +kernel⟩
theorem i_M_change_43 : decode m_M_change.2.1 43 = .ok (.iinc 4 1, 3) := by decide +kernel
theorem i_M_change_46 : decode m_M_change.2.1 46 = .ok (.goto (-30), 3) := by decide +kernel
theorem i_M_change_49 : decode m_M_change.2.1 49 = .ok (.aload_n 0, 1) := by decide +kernel
theorem i_M_change_50 : qGet m_M_change 50 5 5 := ⟨22, _, by decide +kernel, rfl, by decide, rfl, Or.inl wd_786⟩
theorem i_M_change_53 : decode m_M_change.2.1 53 = .ok (.iload_n 1, 1) := by decide +kernel
theorem i_M_change_54 : decode m_M_change.2.1 54 = .ok (.iconst 1, 1) := by decide +kernel
theorem i_M_change_55 : decode m_M_change.2.1 55 = .ok (.bastore, 1) := by decide +kernel
theorem i_M_change_56 : decode m_M_change.2.1 56 = .ok (.iload_n 3, 1) := by decide +kernel
theorem i_M_change_57 : decode m_M_change.2.1 57 = .ok (.ifCond .eq 42, 3) := by decide +kernel
theorem i_M_change_60 : decode m_M_change.2.1 60 = .ok (.aload_n 0, 1) := by decide +kernel
theorem i_M_change_61 : qGet m_M_change 61 5 1 := ⟨7, _, by decide +kernel, rfl, by decide, rfl, Or.inl wd_782⟩
theorem i_M_change_64 : decode m_M_change.2.1 64 = .ok (.iload_n 1, 1) := by decide +kernel
theorem i_M_change_65 : decode m_M_change.2.1 65 = .ok (.iaload, 1) := by decide +kernel
theorem i_M_change_66 : decode m_M_change.2.1 66 = .ok (.ifCond .le 33, 3) := by decide +kernel
theorem i_M_change_69 : decode m_M_change.2.1 69 = .ok (.aload_n 0, 1) := by decide +kernel
theorem i_M_change_70 : qGet m_M_change 70 5 33 := ⟨132, _, by decide +kernel, rfl, by decide, rfl, Or.inl wd_814⟩
theorem i_M_change_73 : decode m_M_change.2.1 73 = .ok (.iconst 1, 1) := by decide +kernel
theorem i_M_change_74 : decode m_M_change.2.1 74 = .ok (.if_icmp .ne 25, 3) := by decide +kernel
theorem i_M_change_77 : decode m_M_change.2.1 77 = .ok (.aload_n 0, 1) := by decide +kernel
theorem i_M_change_78 : qGet m_M_change 78 5 3 := ⟨16, _, by decide +kernel, rfl, by decide, rfl, Or.inl wd_784⟩
theorem i_M_change_81 : decode m_M_change.2.1 81 = .ok (.iload_n 1, 1) := by decide +kernel
theorem i_M_change_82 : decode m_M_change.2.1 82 = .ok (.iload_n 2, 1) := by decide +kernel
theorem i_M_change_83 : decode m_M_change.2.1 83 = .ok (.iastore, 1) := by decide +kernel
theorem i_M_change_84 : decode m_M_change.2.1 84 = .ok (.aload_n 0, 1) := by decide +kernel
theorem i_M_change_85 : qGet m_M_change 85 5 14 := ⟨46, _, by decide +kernel, rfl, by decide, rfl, Or.inl wd_795⟩
theorem i_M_change_88 : decode m_M_change.2.1 88 = .ok (.iload_n 2, 1) := by decide +kernel
theorem i_M_change_89 : decode m_M_change.2.1 89 = .ok (.aload_n 0, 1) := by decide +kernel
theorem i_M_change_90 : qGet m_M_change 90 5 35 := ⟨85, _, by decide +kernel, rfl, by decide, rfl, Or.inl wd_816⟩
theorem i_M_change_93 : decode m_M_change.2.1 93 = .ok (.iconst 0, 1) := by decide +kernel
theorem i_M_change_94 : decode m_M_change.2.1 94 = .ok (.laload, 1) := by decide +kernel
theorem i_M_change_95 : decode m_M_change.2.1 95 = .ok (.l2i, 1) := by decide +kernel
theorem i_M_change_96 : decode m_M_change.2.1 96 = .ok (.iastore, 1) := by decide +kernel
theorem i_M_change_97 : decode m_M_change.2.1 97 = .ok (.iconst 0, 1) := by decide +kernel
theorem i_M_change_98 : decode m_M_change.2.1 98 = .ok (.ireturn, 1) := by decide +kernel
theorem i_M_change_99 : decode m_M_change.2.1 99 = .ok (.iload_n 3, 1) := by decide +kernel
theorem i_M_change_100 : decode m_M_change.2.1 100 = .ok (.ifCond .ne 11, 3) := by decide +kernel
theorem i_M_change_103 : decode m_M_change.2.1 103 = .ok (.aload_n 0, 1) := by decide +kernel
theorem i_M_change_104 : qGet m_M_change 104 5 33 := ⟨132, _, by decide +kernel, rfl, by decide, rfl, Or.inl wd_814⟩
theorem i_M_change_107 : decode m_M_change.2.1 107 = .ok (.iconst 2, 1) := by decide +kernel
theorem i_M_change_108 : decode m_M_change.2.1 108 = .ok (.if_icmp .le 93, 3) := by decide +kernel
theorem i_M_change_111 : decode m_M_change.2.1 111 = .ok (.aload_n 0, 1) := by decide +kernel
theorem i_M_change_112 : qGet m_M_change 112 5 4 := ⟨19, _, by decide +kernel, rfl, by decide, rfl, Or.inl wd_785⟩
theorem i_M_change_115 : decode m_M_change.2.1 115 = .ok (.iload_n 1, 1) := by decide +kernel
theorem i_M_change_116 : decode m_M_change.2.1 116 = .ok (.iaload, 1) := by decide +kernel
theorem i_M_change_117 : decode m_M_change.2.1 117 = .ok (.aload_n 0, 1) := by decide +kernel
theorem i_M_change_118 : qGet m_M_change 118 5 30 := ⟨152, _, by decide +kernel, rfl, by decide, rfl, Or.inl wd_811⟩
theorem i_M_change_121 : decode m_M_change.2.1 121 = .ok (.iadd, 1) := by decide +kernel
theorem i_M_change_122 : decode m_M_change.2.1 122 = .ok (.bipush 16, 2) := by decide +kernel
theorem i_M_change_124 : decode m_M_change.2.1 124 = .ok (.if_icmp .gt 77, 3) := by decide +kernel
theorem i_M_change_127 : decode m_M_change.2.1 127 = .ok (.aload_n 0, 1) := by decide +kernel
theorem i_M_change_128 : qGet m_M_change 128 5 28 := ⟨135, _, by decide +kernel, rfl, by decide, rfl, Or.inl wd_809⟩
theorem i_M_change_131 : decode m_M_change.2.1 131 = .ok (.ifCond .lt 13, 3) := by decide +kernel
theorem i_M_change_134 : decode m_M_change.2.1 134 = .ok (.aload_n 0, 1) := by decide +kernel
theorem i_M_change_135 : qGet m_M_change 135 5 8 := ⟨32, _, by decide +kernel, rfl, by decide, rfl, Or.inl wd_789⟩
theorem i_M_change_138 : decode m_M_change.2.1 138 = .ok (.aload_n 0, 1) := by decide +kernel
theorem i_M_change_139 : qGet m_M_change 139 5 28 := ⟨135, _, by decide +kernel, rfl, by decide, rfl, Or.inl wd_809⟩
theorem i_M_change_142 : decode m_M_change.2.1 142 = .ok (.iload_n 2, 1) := by decide +kernel
theorem i_M_change_143 : decode m_M_change.2.1 143 = .ok (.iastore, 1) := by decide +kernel
theorem i_M_change_144 : decode m_M_change.2.1 144 = .ok (.aload_n 0, 1) := by decide +kernel
theorem i_M_change_145 : qGet m_M_change 145 5 29 := ⟨138, _, by decide +kernel, rfl, by decide, rfl, Or.inl wd_810⟩
theorem i_M_change_148 : decode m_M_change.2.1 148 = .ok (.ifCond .lt 13, 3) := by decide +kernel
theorem i_M_change_151 : decode m_M_change.2.1 151 = .ok (.aload_n 0, 1) := by decide +kernel
theorem i_M_change_152 : qGet m_M_change 152 5 8 := ⟨32, _, by decide +kernel, rfl, by decide, rfl, Or.inl wd_789⟩
theorem i_M_change_155 : decode m_M_change.2.1 155 = .ok (.aload_n 0, 1) := by decide +kernel
theorem i_M_change_156 : qGet m_M_change 156 5 29 := ⟨138, _, by decide +kernel, rfl, by decide, rfl, Or.inl wd_810⟩
theorem i_M_change_159 : decode m_M_change.2.1 159 = .ok (.iload_n 2, 1) := by decide +kernel
theorem i_M_change_160 : decode m_M_change.2.1 160 = .ok (.iastore, 1) := by decide +kernel
theorem i_M_change_161 : decode m_M_change.2.1 161 = .ok (.iconst 0, 1) := by decide +kernel
theorem i_M_change_162 : decode m_M_change.2.1 162 = .ok (.istore 4, 2) := by decide +kernel
theorem i_M_change_164 : decode m_M_change.2.1 164 = .ok (.iload 4, 2) := by decide +kernel
theorem i_M_change_166 : decode m_M_change.2.1 166 = .ok (.aload_n 0, 1) := by decide +kernel
theorem i_M_change_167 : qGet m_M_change 167 5 30 := ⟨152, _, by decide +kernel, rfl, by decide, rfl, Or.inl wd_811⟩
theorem i_M_change_170 : decode m_M_change.2.1 170 = .ok (.if_icmp .ge 29, 3) := by decide +kernel
theorem i_M_change_173 : decode m_M_change.2.1 173 = .ok (.aload_n 0, 1) := by decide +kernel
theorem i_M_change_174 : decode m_M_change.2.1 174 = .ok (.iload_n 1, 1) := by decide +kernel
theorem i_M_change_175 : decode m_M_change.2.1 175 = .ok (.aload_n 0, 1) := by decide +kernel
theorem i_M_change_176 : qGet m_M_change 176 5 31 := ⟨76, _, by decide +kernel, rfl, by decide, rfl, Or.inl wd_812⟩
theorem i_M_change_179 : decode m_M_change.2.1 179 = .ok (.iload 4, 2) := by decide +kernel
theorem i_M_change_181 : decode m_M_change.2.1 181 = .ok (.iaload, 1) := by decide +kernel
theorem i_M_change_182 : decode m_M_change.2.1 182 = .ok (.aload_n 0, 1) := by decide +kernel
theorem i_M_change_183 : qGet m_M_change 183 5 32 := ⟨79, _, by decide +kernel, rfl, by decide, rfl, Or.inl wd_813⟩
theorem i_M_change_186 : decode m_M_change.2.1 186 = .ok (.iload 4, 2) := by decide +kernel
theorem i_M_change_188 : decode m_M_change.2.1 188 = .ok (.laload, 1) := by decide +kernel
theorem i_M_change_189 : decode m_M_change.2.1 189 = .ok (.iload_n 2, 1) := by decide +kernel
theorem i_M_change_190 : qInv m_M_change 190 m_M_append 5 4 := ⟨163, _, by decide +kernel, rfl, rfl, wd_958, wd_960, ws_29, by decide +kernel⟩
theorem i_M_change_193 : decode m_M_change.2.1 193 = .ok (.iinc 4 1, 3) := by decide +kernel
theorem i_M_change_196 : decode m_M_change.2.1 196 = .ok (.goto (-32), 3) := by decide +kernel
theorem i_M_change_199 : decode m_M_change.2.1 199 = .ok (.iconst 0, 1) := by decide +kernel
theorem i_M_change_200 : decode m_M_change.2.1 200 = .ok (.ireturn, 1) := by decide +kernel
theorem i_M_change_201 : decode m_M_change.2.1 201 = .ok (.aload_n 0, 1) := by decide +kernel
theorem i_M_change_202 : qGet m_M_change 202 5 3 := ⟨16, _, by decide +kernel, rfl, by decide, rfl, Or.inl wd_784⟩
theorem i_M_change_205 : decode m_M_change.2.1 205 = .ok (.iload_n 1, 1) := by decide +kernel
theorem i_M_change_206 : decode m_M_change.2.1 206 = .ok (.iload_n 2, 1) := by decide +kernel
theorem i_M_change_207 : decode m_M_change.2.1 207 = .ok (.iastore, 1) := by decide +kernel
theorem i_M_change_208 : decode m_M_change.2.1 208 = .ok (.iconst (-1), 1) := by decide +kernel
theorem i_M_change_209 : decode m_M_change.2.1 209 = .ok (.istore 4, 2) := by decide +kernel
theorem i_M_change_211 : decode m_M_change.2.1 211 = .ok (.iconst (-1), 1) := by decide +kernel
theorem i_M_change_212 : decode m_M_change.2.1 212 = .ok (.istore 5, 2) := by decide +kernel
theorem i_M_change_214 : decode m_M_change.2.1 214 = .ok (.iload_n 3, 1) := by decide +kernel
theorem i_M_change_215 : decode m_M_change.2.1 215 = .ok (.ifCond .ne 96, 3) := by decide +kernel
theorem i_M_change_218 : decode m_M_change.2.1 218 = .ok (.aload_n 0, 1) := by decide +kernel
theorem i_M_change_219 : qGet m_M_change 219 5 36 := ⟨88, _, by decide +kernel, rfl, by decide, rfl, Or.inl wd_817⟩
theorem i_M_change_222 : decode m_M_change.2.1 222 = .ok (.aload_n 0, 1) := by decide +kernel
theorem i_M_change_223 : qGet m_M_change 223 5 1 := ⟨7, _, by decide +kernel, rfl, by decide, rfl, Or.inl wd_782⟩
theorem i_M_change_226 : decode m_M_change.2.1 226 = .ok (.iload_n 1, 1) := by decide +kernel
