/-! THE LAW'S LOOP (by gen_law.py) -/
theorem d_law_0 : decode code 0 = .ok (.new 8, 3) := by decide +kernel
theorem d_law_3 : decode code 3 = .ok (.dup, 1) := by decide +kernel
theorem d_law_4 : decode code 4 = .ok (.invokespecial 15, 3) := by decide +kernel
theorem d_law_7 : decode code 7 = .ok (.astore_n 1, 1) := by decide +kernel
theorem d_law_8 : decode code 8 = .ok (.new 16, 3) := by decide +kernel
theorem d_law_11 : decode code 11 = .ok (.dup, 1) := by decide +kernel
theorem d_law_12 : decode code 12 = .ok (.invokespecial 18, 3) := by decide +kernel
theorem d_law_15 : decode code 15 = .ok (.astore_n 2, 1) := by decide +kernel
theorem d_law_16 : decode code 16 = .ok (.iconst 1, 1) := by decide +kernel
theorem d_law_17 : decode code 17 = .ok (.newarray .long, 2) := by decide +kernel
theorem d_law_19 : decode code 19 = .ok (.astore_n 3, 1) := by decide +kernel
theorem d_law_20 : decode code 20 = .ok (.iconst 0, 1) := by decide +kernel
theorem d_law_21 : decode code 21 = .ok (.istore 4, 2) := by decide +kernel
theorem d_law_23 : decode code 23 = .ok (.iload 4, 2) := by decide +kernel
theorem d_law_25 : decode code 25 = .ok (.aload_n 0, 1) := by decide +kernel
theorem d_law_26 : decode code 26 = .ok (.arraylength, 1) := by decide +kernel
theorem d_law_27 : decode code 27 = .ok (.iconst 3, 1) := by decide +kernel
theorem d_law_28 : decode code 28 = .ok (.isub, 1) := by decide +kernel
theorem d_law_29 : decode code 29 = .ok (.if_icmp .gt (316), 3) := by decide +kernel
theorem d_law_32 : decode code 32 = .ok (.aload_n 0, 1) := by decide +kernel
theorem d_law_33 : decode code 33 = .ok (.iload 4, 2) := by decide +kernel
theorem d_law_35 : decode code 35 = .ok (.iaload, 1) := by decide +kernel
theorem d_law_36 : decode code 36 = .ok (.bipush 7, 2) := by decide +kernel
theorem d_law_38 : decode code 38 = .ok (.iand, 1) := by decide +kernel
theorem d_law_39 : decode code 39 = .ok (.tableswitch 300 0 7 #[45, 82, 119, 156, 169, 206, 261, 275], 45) := by decide +kernel
theorem d_law_84 : decode code 84 = .ok (.aload_n 1, 1) := by decide +kernel
theorem d_law_85 : decode code 85 = .ok (.aload_n 0, 1) := by decide +kernel
theorem d_law_86 : decode code 86 = .ok (.iload 4, 2) := by decide +kernel
theorem d_law_88 : decode code 88 = .ok (.iconst 1, 1) := by decide +kernel
theorem d_law_89 : decode code 89 = .ok (.iadd, 1) := by decide +kernel
theorem d_law_90 : decode code 90 = .ok (.iaload, 1) := by decide +kernel
theorem d_law_91 : decode code 91 = .ok (.aload_n 0, 1) := by decide +kernel
theorem d_law_92 : decode code 92 = .ok (.iload 4, 2) := by decide +kernel
theorem d_law_94 : decode code 94 = .ok (.iconst 2, 1) := by decide +kernel
theorem d_law_95 : decode code 95 = .ok (.iadd, 1) := by decide +kernel
theorem d_law_96 : decode code 96 = .ok (.iaload, 1) := by decide +kernel
theorem d_law_97 : decode code 97 = .ok (.invokevirtual 19, 3) := by decide +kernel
theorem d_law_100 : decode code 100 = .ok (.aload_n 2, 1) := by decide +kernel
theorem d_law_101 : decode code 101 = .ok (.aload_n 0, 1) := by decide +kernel
theorem d_law_102 : decode code 102 = .ok (.iload 4, 2) := by decide +kernel
theorem d_law_104 : decode code 104 = .ok (.iconst 1, 1) := by decide +kernel
theorem d_law_105 : decode code 105 = .ok (.iadd, 1) := by decide +kernel
theorem d_law_106 : decode code 106 = .ok (.iaload, 1) := by decide +kernel
theorem d_law_107 : decode code 107 = .ok (.aload_n 0, 1) := by decide +kernel
theorem d_law_108 : decode code 108 = .ok (.iload 4, 2) := by decide +kernel
theorem d_law_110 : decode code 110 = .ok (.iconst 2, 1) := by decide +kernel
theorem d_law_111 : decode code 111 = .ok (.iadd, 1) := by decide +kernel
theorem d_law_112 : decode code 112 = .ok (.iaload, 1) := by decide +kernel
theorem d_law_113 : decode code 113 = .ok (.invokevirtual 23, 3) := by decide +kernel
theorem d_law_116 : decode code 116 = .ok (.if_icmp .eq (223), 3) := by decide +kernel
theorem d_law_119 : decode code 119 = .ok (.iconst 0, 1) := by decide +kernel
theorem d_law_120 : decode code 120 = .ok (.ireturn, 1) := by decide +kernel
theorem d_law_121 : decode code 121 = .ok (.aload_n 1, 1) := by decide +kernel
theorem d_law_122 : decode code 122 = .ok (.aload_n 0, 1) := by decide +kernel
theorem d_law_123 : decode code 123 = .ok (.iload 4, 2) := by decide +kernel
theorem d_law_125 : decode code 125 = .ok (.iconst 1, 1) := by decide +kernel
theorem d_law_126 : decode code 126 = .ok (.iadd, 1) := by decide +kernel
theorem d_law_127 : decode code 127 = .ok (.iaload, 1) := by decide +kernel
theorem d_law_128 : decode code 128 = .ok (.aload_n 0, 1) := by decide +kernel
theorem d_law_129 : decode code 129 = .ok (.iload 4, 2) := by decide +kernel
theorem d_law_131 : decode code 131 = .ok (.iconst 2, 1) := by decide +kernel
theorem d_law_132 : decode code 132 = .ok (.iadd, 1) := by decide +kernel
theorem d_law_133 : decode code 133 = .ok (.iaload, 1) := by decide +kernel
theorem d_law_134 : decode code 134 = .ok (.invokevirtual 24, 3) := by decide +kernel
theorem d_law_137 : decode code 137 = .ok (.aload_n 2, 1) := by decide +kernel
theorem d_law_138 : decode code 138 = .ok (.aload_n 0, 1) := by decide +kernel
theorem d_law_139 : decode code 139 = .ok (.iload 4, 2) := by decide +kernel
theorem d_law_141 : decode code 141 = .ok (.iconst 1, 1) := by decide +kernel
theorem d_law_142 : decode code 142 = .ok (.iadd, 1) := by decide +kernel
theorem d_law_143 : decode code 143 = .ok (.iaload, 1) := by decide +kernel
theorem d_law_144 : decode code 144 = .ok (.aload_n 0, 1) := by decide +kernel
theorem d_law_145 : decode code 145 = .ok (.iload 4, 2) := by decide +kernel
theorem d_law_147 : decode code 147 = .ok (.iconst 2, 1) := by decide +kernel
theorem d_law_148 : decode code 148 = .ok (.iadd, 1) := by decide +kernel
theorem d_law_149 : decode code 149 = .ok (.iaload, 1) := by decide +kernel
theorem d_law_150 : decode code 150 = .ok (.invokevirtual 28, 3) := by decide +kernel
theorem d_law_153 : decode code 153 = .ok (.if_icmp .eq (186), 3) := by decide +kernel
theorem d_law_156 : decode code 156 = .ok (.iconst 0, 1) := by decide +kernel
theorem d_law_157 : decode code 157 = .ok (.ireturn, 1) := by decide +kernel
theorem d_law_158 : decode code 158 = .ok (.aload_n 1, 1) := by decide +kernel
theorem d_law_159 : decode code 159 = .ok (.aload_n 0, 1) := by decide +kernel
theorem d_law_160 : decode code 160 = .ok (.iload 4, 2) := by decide +kernel
theorem d_law_162 : decode code 162 = .ok (.iconst 1, 1) := by decide +kernel
theorem d_law_163 : decode code 163 = .ok (.iadd, 1) := by decide +kernel
theorem d_law_164 : decode code 164 = .ok (.iaload, 1) := by decide +kernel
theorem d_law_165 : decode code 165 = .ok (.aload_n 0, 1) := by decide +kernel
theorem d_law_166 : decode code 166 = .ok (.iload 4, 2) := by decide +kernel
theorem d_law_168 : decode code 168 = .ok (.iconst 2, 1) := by decide +kernel
theorem d_law_169 : decode code 169 = .ok (.iadd, 1) := by decide +kernel
theorem d_law_170 : decode code 170 = .ok (.iaload, 1) := by decide +kernel
theorem d_law_171 : decode code 171 = .ok (.invokevirtual 29, 3) := by decide +kernel
theorem d_law_174 : decode code 174 = .ok (.aload_n 2, 1) := by decide +kernel
theorem d_law_175 : decode code 175 = .ok (.aload_n 0, 1) := by decide +kernel
theorem d_law_176 : decode code 176 = .ok (.iload 4, 2) := by decide +kernel
theorem d_law_178 : decode code 178 = .ok (.iconst 1, 1) := by decide +kernel
theorem d_law_179 : decode code 179 = .ok (.iadd, 1) := by decide +kernel
theorem d_law_180 : decode code 180 = .ok (.iaload, 1) := by decide +kernel
theorem d_law_181 : decode code 181 = .ok (.aload_n 0, 1) := by decide +kernel
theorem d_law_182 : decode code 182 = .ok (.iload 4, 2) := by decide +kernel
theorem d_law_184 : decode code 184 = .ok (.iconst 2, 1) := by decide +kernel
theorem d_law_185 : decode code 185 = .ok (.iadd, 1) := by decide +kernel
theorem d_law_186 : decode code 186 = .ok (.iaload, 1) := by decide +kernel
theorem d_law_187 : decode code 187 = .ok (.invokevirtual 32, 3) := by decide +kernel
theorem d_law_190 : decode code 190 = .ok (.if_icmp .eq (149), 3) := by decide +kernel
theorem d_law_193 : decode code 193 = .ok (.iconst 0, 1) := by decide +kernel
theorem d_law_194 : decode code 194 = .ok (.ireturn, 1) := by decide +kernel
theorem d_law_195 : decode code 195 = .ok (.aload_n 1, 1) := by decide +kernel
theorem d_law_196 : decode code 196 = .ok (.invokevirtual 33, 3) := by decide +kernel
theorem d_law_199 : decode code 199 = .ok (.aload_n 2, 1) := by decide +kernel
theorem d_law_200 : decode code 200 = .ok (.invokevirtual 37, 3) := by decide +kernel
theorem d_law_203 : decode code 203 = .ok (.if_icmp .eq (136), 3) := by decide +kernel
theorem d_law_206 : decode code 206 = .ok (.iconst 0, 1) := by decide +kernel
theorem d_law_207 : decode code 207 = .ok (.ireturn, 1) := by decide +kernel
theorem d_law_208 : decode code 208 = .ok (.aload_n 1, 1) := by decide +kernel
theorem d_law_209 : decode code 209 = .ok (.aload_n 0, 1) := by decide +kernel
theorem d_law_210 : decode code 210 = .ok (.iload 4, 2) := by decide +kernel
theorem d_law_212 : decode code 212 = .ok (.iconst 1, 1) := by decide +kernel
theorem d_law_213 : decode code 213 = .ok (.iadd, 1) := by decide +kernel
theorem d_law_214 : decode code 214 = .ok (.iaload, 1) := by decide +kernel
theorem d_law_215 : decode code 215 = .ok (.aload_n 0, 1) := by decide +kernel
theorem d_law_216 : decode code 216 = .ok (.iload 4, 2) := by decide +kernel
theorem d_law_218 : decode code 218 = .ok (.iconst 2, 1) := by decide +kernel
theorem d_law_219 : decode code 219 = .ok (.iadd, 1) := by decide +kernel
theorem d_law_220 : decode code 220 = .ok (.iaload, 1) := by decide +kernel
theorem d_law_221 : decode code 221 = .ok (.invokevirtual 38, 3) := by decide +kernel
theorem d_law_224 : decode code 224 = .ok (.aload_n 2, 1) := by decide +kernel
theorem d_law_225 : decode code 225 = .ok (.aload_n 0, 1) := by decide +kernel
theorem d_law_226 : decode code 226 = .ok (.iload 4, 2) := by decide +kernel
theorem d_law_228 : decode code 228 = .ok (.iconst 1, 1) := by decide +kernel
theorem d_law_229 : decode code 229 = .ok (.iadd, 1) := by decide +kernel
theorem d_law_230 : decode code 230 = .ok (.iaload, 1) := by decide +kernel
theorem d_law_231 : decode code 231 = .ok (.aload_n 0, 1) := by decide +kernel
theorem d_law_232 : decode code 232 = .ok (.iload 4, 2) := by decide +kernel
theorem d_law_234 : decode code 234 = .ok (.iconst 2, 1) := by decide +kernel
theorem d_law_235 : decode code 235 = .ok (.iadd, 1) := by decide +kernel
theorem d_law_236 : decode code 236 = .ok (.iaload, 1) := by decide +kernel
theorem d_law_237 : decode code 237 = .ok (.invokevirtual 41, 3) := by decide +kernel
theorem d_law_240 : decode code 240 = .ok (.if_icmp .eq (99), 3) := by decide +kernel
theorem d_law_243 : decode code 243 = .ok (.iconst 0, 1) := by decide +kernel
theorem d_law_244 : decode code 244 = .ok (.ireturn, 1) := by decide +kernel
theorem d_law_245 : decode code 245 = .ok (.aload_n 1, 1) := by decide +kernel
theorem d_law_246 : decode code 246 = .ok (.aload_n 0, 1) := by decide +kernel
theorem d_law_247 : decode code 247 = .ok (.iload 4, 2) := by decide +kernel
theorem d_law_249 : decode code 249 = .ok (.iconst 1, 1) := by decide +kernel
theorem d_law_250 : decode code 250 = .ok (.iadd, 1) := by decide +kernel
theorem d_law_251 : decode code 251 = .ok (.iaload, 1) := by decide +kernel
theorem d_law_252 : decode code 252 = .ok (.aload_n 3, 1) := by decide +kernel
theorem d_law_253 : decode code 253 = .ok (.invokestatic 42, 3) := by decide +kernel
theorem d_law_256 : decode code 256 = .ok (.istore 5, 2) := by decide +kernel
theorem d_law_258 : decode code 258 = .ok (.aload_n 2, 1) := by decide +kernel
theorem d_law_259 : decode code 259 = .ok (.aload_n 0, 1) := by decide +kernel
theorem d_law_260 : decode code 260 = .ok (.iload 4, 2) := by decide +kernel
theorem d_law_262 : decode code 262 = .ok (.iconst 1, 1) := by decide +kernel
theorem d_law_263 : decode code 263 = .ok (.iadd, 1) := by decide +kernel
theorem d_law_264 : decode code 264 = .ok (.iaload, 1) := by decide +kernel
theorem d_law_265 : decode code 265 = .ok (.invokevirtual 47, 3) := by decide +kernel
theorem d_law_268 : decode code 268 = .ok (.lstore 6, 2) := by decide +kernel
theorem d_law_270 : decode code 270 = .ok (.aload_n 2, 1) := by decide +kernel
theorem d_law_271 : decode code 271 = .ok (.invokevirtual 48, 3) := by decide +kernel
theorem d_law_274 : decode code 274 = .ok (.iload 5, 2) := by decide +kernel
theorem d_law_276 : decode code 276 = .ok (.if_icmp .eq (5), 3) := by decide +kernel
theorem d_law_279 : decode code 279 = .ok (.iconst 0, 1) := by decide +kernel
theorem d_law_280 : decode code 280 = .ok (.ireturn, 1) := by decide +kernel
theorem d_law_281 : decode code 281 = .ok (.iload 5, 2) := by decide +kernel
theorem d_law_283 : decode code 283 = .ok (.ifCond .ne (14), 3) := by decide +kernel
theorem d_law_286 : decode code 286 = .ok (.aload_n 3, 1) := by decide +kernel
theorem d_law_287 : decode code 287 = .ok (.iconst 0, 1) := by decide +kernel
theorem d_law_288 : decode code 288 = .ok (.laload, 1) := by decide +kernel
theorem d_law_289 : decode code 289 = .ok (.lload 6, 2) := by decide +kernel
theorem d_law_291 : decode code 291 = .ok (.lcmp, 1) := by decide +kernel
theorem d_law_292 : decode code 292 = .ok (.ifCond .eq (5), 3) := by decide +kernel
theorem d_law_295 : decode code 295 = .ok (.iconst 0, 1) := by decide +kernel
theorem d_law_296 : decode code 296 = .ok (.ireturn, 1) := by decide +kernel
theorem d_law_297 : decode code 297 = .ok (.goto (42), 3) := by decide +kernel
theorem d_law_300 : decode code 300 = .ok (.aload_n 1, 1) := by decide +kernel
theorem d_law_301 : decode code 301 = .ok (.invokevirtual 51, 3) := by decide +kernel
theorem d_law_304 : decode code 304 = .ok (.aload_n 2, 1) := by decide +kernel
theorem d_law_305 : decode code 305 = .ok (.invokevirtual 55, 3) := by decide +kernel
theorem d_law_308 : decode code 308 = .ok (.lcmp, 1) := by decide +kernel
theorem d_law_309 : decode code 309 = .ok (.ifCond .eq (30), 3) := by decide +kernel
theorem d_law_312 : decode code 312 = .ok (.iconst 0, 1) := by decide +kernel
theorem d_law_313 : decode code 313 = .ok (.ireturn, 1) := by decide +kernel
theorem d_law_314 : decode code 314 = .ok (.aload_n 1, 1) := by decide +kernel
theorem d_law_315 : decode code 315 = .ok (.aload_n 0, 1) := by decide +kernel
theorem d_law_316 : decode code 316 = .ok (.iload 4, 2) := by decide +kernel
theorem d_law_318 : decode code 318 = .ok (.iconst 1, 1) := by decide +kernel
theorem d_law_319 : decode code 319 = .ok (.iadd, 1) := by decide +kernel
theorem d_law_320 : decode code 320 = .ok (.iaload, 1) := by decide +kernel
theorem d_law_321 : decode code 321 = .ok (.invokevirtual 56, 3) := by decide +kernel
theorem d_law_324 : decode code 324 = .ok (.aload_n 2, 1) := by decide +kernel
theorem d_law_325 : decode code 325 = .ok (.aload_n 0, 1) := by decide +kernel
theorem d_law_326 : decode code 326 = .ok (.iload 4, 2) := by decide +kernel
theorem d_law_328 : decode code 328 = .ok (.iconst 1, 1) := by decide +kernel
theorem d_law_329 : decode code 329 = .ok (.iadd, 1) := by decide +kernel
theorem d_law_330 : decode code 330 = .ok (.iaload, 1) := by decide +kernel
theorem d_law_331 : decode code 331 = .ok (.invokevirtual 60, 3) := by decide +kernel
theorem d_law_334 : decode code 334 = .ok (.if_icmp .eq (5), 3) := by decide +kernel
theorem d_law_337 : decode code 337 = .ok (.iconst 0, 1) := by decide +kernel
theorem d_law_338 : decode code 338 = .ok (.ireturn, 1) := by decide +kernel
theorem d_law_339 : decode code 339 = .ok (.iinc 4 3, 3) := by decide +kernel
theorem d_law_342 : decode code 342 = .ok (.goto (-319), 3) := by decide +kernel
theorem d_law_345 : decode code 345 = .ok (.iconst 1, 1) := by decide +kernel
theorem d_law_346 : decode code 346 = .ok (.ireturn, 1) := by decide +kernel
set_option maxRecDepth 100000 in
theorem lw_190 : ∀ w ∈ zwV cn_L 19 y_R_variable prog_1_method_2_code 3 (some .int), w ∈ tables_1 ∧ goodWord w = true := by decide +kernel
theorem lc_19 : ∀ w ∈ zwV cn_L 19 y_R_variable prog_1_method_2_code 3 (some .int), w ∈ zT := fun w hw => zt_d (lw_190 w hw)
set_option maxRecDepth 100000 in
theorem lw_230 : ∀ w ∈ zwV cn_L 23 y_M_variable prog_10_method_3_code 3 (some .int), w ∈ tables_1 ∧ goodWord w = true := by decide +kernel
theorem lc_23 : ∀ w ∈ zwV cn_L 23 y_M_variable prog_10_method_3_code 3 (some .int), w ∈ zT := fun w hw => zt_d (lw_230 w hw)
set_option maxRecDepth 100000 in
theorem lw_240 : ∀ w ∈ zwV cn_L 24 y_R_give prog_1_method_3_code 3 (some .boolean), w ∈ tables_1 ∧ goodWord w = true := by decide +kernel
theorem lc_24 : ∀ w ∈ zwV cn_L 24 y_R_give prog_1_method_3_code 3 (some .boolean), w ∈ zT := fun w hw => zt_d (lw_240 w hw)
set_option maxRecDepth 100000 in
theorem lw_280 : ∀ w ∈ zwV cn_L 28 y_M_give prog_10_method_4_code 3 (some .boolean), w ∈ tables_1 ∧ goodWord w = true := by decide +kernel
theorem lc_28 : ∀ w ∈ zwV cn_L 28 y_M_give prog_10_method_4_code 3 (some .boolean), w ∈ zT := fun w hw => zt_d (lw_280 w hw)
set_option maxRecDepth 100000 in
theorem lw_290 : ∀ w ∈ zwV cn_L 29 y_R_feed prog_1_method_4_code 3 (some .int), w ∈ tables_1 ∧ goodWord w = true := by decide +kernel
theorem lc_29 : ∀ w ∈ zwV cn_L 29 y_R_feed prog_1_method_4_code 3 (some .int), w ∈ zT := fun w hw => zt_d (lw_290 w hw)
set_option maxRecDepth 100000 in
theorem lw_320 : ∀ w ∈ zwV cn_L 32 y_M_feed prog_10_method_6_code 6 (some .int), w ∈ tables_1 ∧ goodWord w = true := by decide +kernel
theorem lc_32 : ∀ w ∈ zwV cn_L 32 y_M_feed prog_10_method_6_code 6 (some .int), w ∈ zT := fun w hw => zt_d (lw_320 w hw)
set_option maxRecDepth 100000 in
theorem lw_330 : ∀ w ∈ zwV cn_L 33 y_R_take prog_1_method_5_code 3 (some .int), w ∈ tables_1 ∧ goodWord w = true := by decide +kernel
theorem lc_33 : ∀ w ∈ zwV cn_L 33 y_R_take prog_1_method_5_code 3 (some .int), w ∈ zT := fun w hw => zt_d (lw_330 w hw)
set_option maxRecDepth 100000 in
theorem lw_370 : ∀ w ∈ zwV cn_L 37 y_M_take prog_10_method_32_code 4 (some .int), w ∈ tables_1 ∧ goodWord w = true := by decide +kernel
theorem lc_37 : ∀ w ∈ zwV cn_L 37 y_M_take prog_10_method_32_code 4 (some .int), w ∈ zT := fun w hw => zt_d (lw_370 w hw)
set_option maxRecDepth 100000 in
theorem lw_380 : ∀ w ∈ zwV cn_L 38 y_R_part prog_1_method_6_code 3 (some .int), w ∈ tables_1 ∧ goodWord w = true := by decide +kernel
theorem lc_38 : ∀ w ∈ zwV cn_L 38 y_R_part prog_1_method_6_code 3 (some .int), w ∈ zT := fun w hw => zt_d (lw_380 w hw)
set_option maxRecDepth 100000 in
theorem lw_410 : ∀ w ∈ zwV cn_L 41 y_M_part prog_10_method_33_code 3 (some .int), w ∈ tables_1 ∧ goodWord w = true := by decide +kernel
theorem lc_41 : ∀ w ∈ zwV cn_L 41 y_M_part prog_10_method_33_code 3 (some .int), w ∈ zT := fun w hw => zt_d (lw_410 w hw)
set_option maxRecDepth 100000 in
theorem lw_470 : ∀ w ∈ zwV cn_L 47 y_M_value prog_10_method_36_code 3 (some .long), w ∈ tables_1 ∧ goodWord w = true := by decide +kernel
theorem lc_47 : ∀ w ∈ zwV cn_L 47 y_M_value prog_10_method_36_code 3 (some .long), w ∈ zT := fun w hw => zt_d (lw_470 w hw)
set_option maxRecDepth 100000 in
theorem lw_480 : ∀ w ∈ zwV cn_L 48 y_M_thrown prog_10_method_2_code 1 (some .int), w ∈ tables_1 ∧ goodWord w = true := by decide +kernel
theorem lc_48 : ∀ w ∈ zwV cn_L 48 y_M_thrown prog_10_method_2_code 1 (some .int), w ∈ zT := fun w hw => zt_d (lw_480 w hw)
set_option maxRecDepth 100000 in
theorem lw_510 : ∀ w ∈ zwV cn_L 51 y_R_width prog_1_method_8_code 2 (some .long), w ∈ tables_1 ∧ goodWord w = true := by decide +kernel
theorem lc_51 : ∀ w ∈ zwV cn_L 51 y_R_width prog_1_method_8_code 2 (some .long), w ∈ zT := fun w hw => zt_d (lw_510 w hw)
set_option maxRecDepth 100000 in
theorem lw_550 : ∀ w ∈ zwV cn_L 55 y_M_width prog_10_method_37_code 1 (some .long), w ∈ tables_1 ∧ goodWord w = true := by decide +kernel
theorem lc_55 : ∀ w ∈ zwV cn_L 55 y_M_width prog_10_method_37_code 1 (some .long), w ∈ zT := fun w hw => zt_d (lw_550 w hw)
set_option maxRecDepth 100000 in
theorem lw_560 : ∀ w ∈ zwV cn_L 56 y_R_count prog_1_method_9_code 2 (some .int), w ∈ tables_1 ∧ goodWord w = true := by decide +kernel
theorem lc_56 : ∀ w ∈ zwV cn_L 56 y_R_count prog_1_method_9_code 2 (some .int), w ∈ zT := fun w hw => zt_d (lw_560 w hw)
set_option maxRecDepth 100000 in
theorem lw_600 : ∀ w ∈ zwV cn_L 60 y_M_count prog_10_method_38_code 2 (some .int), w ∈ tables_1 ∧ goodWord w = true := by decide +kernel
theorem lc_60 : ∀ w ∈ zwV cn_L 60 y_M_count prog_10_method_38_code 2 (some .int), w ∈ zT := fun w hw => zt_d (lw_600 w hw)
/-- the numbers that stand in the law's loop -/
theorem ll_i {k L : Nat} (hk : 3 * k + 3 ≤ L) (hL : L ≤ 1536) (j : Nat) (hj : j < 3) {x : Int32} (hx : x = nI (3 * k + j)) : vp_in x L := by
  subst hx
  have e : (nI (3 * k + j)).toNatClampNeg = 3 * k + j := nI_clamp (by omega)
  intro z
  rcases z with z | z
  · exact absurd z (nI_pos (by omega))
  · rw [e] at z; omega
theorem l_cmp {k L : Nat} (hL : L ≤ 1536) (hk : k ≤ 512) (q : ¬ Int32.ofNat L - 3 < nI (3 * k)) : 3 * k + 3 ≤ L := by
  rw [Int32.lt_iff_toInt_lt] at q
  have e1 : (nI (3 * k)).toInt = (3 * k : Nat) := nI_toInt (by omega)
  have e2 : (Int32.ofNat L - 3).toInt = (L : Int) - 3 := by
    rw [show (3 : Int32) = nI 3 from rfl, Int32.toInt_sub, show (Int32.ofNat L).toInt = (L : Int) from nI_toInt (by omega), show (nI 3).toInt = (3 : Int) from rfl]
    rw [Int.bmod_def]
    omega
  rw [e1, e2] at q
  omega
abbrev lA (s : State) : Nat → Prop := fun q => s.heap.size ≤ q
abbrev lwv (E : zE) (b k : Nat) : List (Option Value) := [some (.ref b), some (.ref (E.2.2.1 0)), some (.ref (E.2.2.1 39)), some (.ref (E.2.2.1 59)), some (.int (nI (3 * k))), none, none, none]
section LL
variable {p : Program} {l : Launch} {e : Env} {s : State} {m : MethodId} {below : List Frame} {meth : Method} {c : Code} {E : zE} {G : (Nat → Prop) → State → Prop} {b L : Nat} {xs : Nat → Int32}
abbrev lZ (p : Program) (l : Launch) (e : Env) (s : State) (m : MethodId) (below : List Frame) (meth : Method) (c : Code) (E : zE) (b : Nat) (kc ks : Nat) (h : zH) (pc : Nat) (lv : List (Option Value)) (st : List Value) : Prop :=
  ZW p l e room_1 s m #[Value.ref b] below meth c (lw_Z below #[Value.ref b] s) xX E xcl (lA s) s.heap 8 kc ks h pc lv st
abbrev lC (p : Program) (s : State) (m : MethodId) (meth : Method) (c : Code) (E : zE) (G : (Nat → Prop) → State → Prop) (b kc ks : Nat) : Prop := ZC p room_1 s m #[Value.ref b] meth c code 8 zT cn_L E xcl xN G (lA s) xX kc ks s.heap
theorem lC.at {kc ks kc2 ks2 : Nat} (C : lC p s m meth c E G b kc ks) (h1 : kc2 ≤ 1085) (h2 : ks2 ≤ 15205) : lC p s m meth c E G b kc2 ks2 := ⟨C.1, C.2.1, C.2.2.1, C.2.2.2.1, ⟨h1, h2⟩, C.2.2.2.2.2⟩
theorem l_end {h : zH} {kc ks : Nat} (C : lC p s m meth c E G b kc ks) (hr : meth.sig.returnType = ret) {lv : List (Option Value)} : lZ p l e s m below meth c E b kc ks h 345 lv [] := by
  refine z_iconst C (v := 1) d_law_345 (by decide) ?_
  intro H locs ls hP hD hS hL
  refine W.forget (locs := []) (L := locs) (fun q hq => hS.2.2 q hq) ?_
  exact W.widen C.2.2.2.2.1.1 C.2.2.2.2.1.2 (lw_ret C.1.1 C.1.2.1 hr C.2.2.2.1 d_law_346)
theorem l_next {h : zH} {k : Nat} (C : lC p s m meth c E G b (60 + (k + 1)) (7007 + 6 * (k + 1))) (hk : k < 512) (IH : lZ p l e s m below meth c E b (60 + (k + 1)) (7007 + 6 * (k + 1)) h 23 (lwv E b (k + 1)) []) : lZ p l e s m below meth c E b (60 + (k + 1)) (7007 + 6 * (k + 1)) h 339 (lwv E b k) [] := by
  refine z_iinc C (i := 4) (x := nI (3 * k)) (v := nI (3 * (k + 1))) d_law_339 rfl (by show nI (3 * k) + nI 3 = _; rw [nI_add]; congr 1) (by decide) rfl ?_
  refine z_lv (lv2 := lwv E b (k + 1)) rfl ?_
  exact z_goto C (tgt := 23) d_law_342 (by decide) IH

set_option maxRecDepth 100000 in
set_option maxHeartbeats 4000000 in
theorem l_variable (hG : xGG E G) (hr : meth.sig.returnType = ret) (hX : va_X b L xs s s.heap) (hbl : b < s.heap.size) (hL : L ≤ 1536) {k : Nat} (hk : 3 * k + 3 ≤ L) (C : lC p s m meth c E G b (60 + k) (7007 + 6 * k)) (IH : ∀ h : zH, Inv h → lZ p l e s m below meth c E b (60 + (k + 1)) (7007 + 6 * (k + 1)) h 23 (lwv E b (k + 1)) []) {h : zH} (hI : Inv h) : lZ p l e s m below meth c E b (60 + k) (7007 + 6 * k) h 84 (lwv E b k) [] := by
  have hbA : ¬ lA s b := fun z => absurd hbl (Nat.not_lt.mpr z)
  have hi1 : vp_in (nI (3 * k) + 1) L := ll_i hk hL 1 (by decide) (by rw [show (1 : Int32) = nI 1 from rfl, nI_add])
  have hi2 : vp_in (nI (3 * k) + 2) L := ll_i hk hL 2 (by decide) (by rw [show (2 : Int32) = nI 2 from rfl, nI_add])
  have C1 : lC p s m meth c E G b (60 + (k + 1)) (7007 + 6 * (k + 1)) := C.at (by omega) (by omega)
  have hw := c_variable (h := h) (a := (xs (nI (3 * k) + 1).toNatClampNeg)) (b := (xs (nI (3 * k) + 2).toNatClampNeg)) (K := fun (r1 r2 : Int32) (h2 : zH) => r1 = r2 ∧ Inv h2) hI (fun r h2 hI2 => ⟨rfl, hI2⟩)
  refine z_aload_n C (i := 1) d_law_84 rfl rfl ?_
  refine z_aload_n C (i := 0) d_law_85 rfl rfl ?_
  refine z_iload C (i := 4) d_law_86 rfl ?_
  refine z_iconst C (v := 1) d_law_88 (by decide) ?_
  refine z_iadd C d_law_89 ?_
  refine z_sld C hX hbl hbA (hi1) d_law_90 ?_
  refine z_aload_n C (i := 0) d_law_91 rfl rfl ?_
  refine z_iload C (i := 4) d_law_92 rfl ?_
  refine z_iconst C (v := 2) d_law_94 (by decide) ?_
  refine z_iadd C d_law_95 ?_
  refine z_sld C hX hbl hbA (hi2) d_law_96 ?_
  refine z_callVi ⟨xN_ok, hG.1⟩ zT_good C (t_R_variable hG hw) lc_19 (by decide) rfl rfl (by decide) (by decide) pl_R_variable rfl rfl (Nat.le_of_ble_eq_true rfl) d_law_97 (fun r1 h1 hw => ?_)
  refine z_aload_n C (i := 2) d_law_100 rfl rfl ?_
  refine z_aload_n C (i := 0) d_law_101 rfl rfl ?_
  refine z_iload C (i := 4) d_law_102 rfl ?_
  refine z_iconst C (v := 1) d_law_104 (by decide) ?_
  refine z_iadd C d_law_105 ?_
  refine z_sld C hX hbl hbA (hi1) d_law_106 ?_
  refine z_aload_n C (i := 0) d_law_107 rfl rfl ?_
  refine z_iload C (i := 4) d_law_108 rfl ?_
  refine z_iconst C (v := 2) d_law_110 (by decide) ?_
  refine z_iadd C d_law_111 ?_
  refine z_sld C hX hbl hbA (hi2) d_law_112 ?_
  refine z_callVi ⟨xN_ok, hG.1⟩ zT_good C (t_M_variable hG hw) lc_23 (by decide) rfl rfl (by decide) (by decide) pl_M_variable rfl rfl (Nat.le_of_ble_eq_true rfl) d_law_113 (fun r2 h2 hw => ?_)
  obtain ⟨e12, hI2⟩ := hw
  refine z_icmp_eq C (tgt := 339) d_law_116 (by decide) (fun _ => ?_) (fun q => absurd e12 q)
  refine z_widen (k := 60 + (k + 1)) (n := 7007 + 6 * (k + 1)) (by omega) (by omega) ?_
  exact l_next C1 (by omega) (IH h2 hI2)
set_option maxRecDepth 100000 in
set_option maxHeartbeats 4000000 in
theorem l_give (hG : xGG E G) (hr : meth.sig.returnType = ret) (hX : va_X b L xs s s.heap) (hbl : b < s.heap.size) (hL : L ≤ 1536) {k : Nat} (hk : 3 * k + 3 ≤ L) (C : lC p s m meth c E G b (60 + k) (7007 + 6 * k)) (IH : ∀ h : zH, Inv h → lZ p l e s m below meth c E b (60 + (k + 1)) (7007 + 6 * (k + 1)) h 23 (lwv E b (k + 1)) []) {h : zH} (hI : Inv h) : lZ p l e s m below meth c E b (60 + k) (7007 + 6 * k) h 121 (lwv E b k) [] := by
  have hbA : ¬ lA s b := fun z => absurd hbl (Nat.not_lt.mpr z)
  have hi1 : vp_in (nI (3 * k) + 1) L := ll_i hk hL 1 (by decide) (by rw [show (1 : Int32) = nI 1 from rfl, nI_add])
  have hi2 : vp_in (nI (3 * k) + 2) L := ll_i hk hL 2 (by decide) (by rw [show (2 : Int32) = nI 2 from rfl, nI_add])
  have C1 : lC p s m meth c E G b (60 + (k + 1)) (7007 + 6 * (k + 1)) := C.at (by omega) (by omega)
  have hw := c_give (h := h) (a := (xs (nI (3 * k) + 1).toNatClampNeg)) (b := (xs (nI (3 * k) + 2).toNatClampNeg)) (K := fun (r1 r2 : Int32) (h2 : zH) => r1 = r2 ∧ Inv h2) hI (fun r h2 hI2 => ⟨rfl, hI2⟩)
  refine z_aload_n C (i := 1) d_law_121 rfl rfl ?_
  refine z_aload_n C (i := 0) d_law_122 rfl rfl ?_
  refine z_iload C (i := 4) d_law_123 rfl ?_
  refine z_iconst C (v := 1) d_law_125 (by decide) ?_
  refine z_iadd C d_law_126 ?_
  refine z_sld C hX hbl hbA (hi1) d_law_127 ?_
  refine z_aload_n C (i := 0) d_law_128 rfl rfl ?_
  refine z_iload C (i := 4) d_law_129 rfl ?_
  refine z_iconst C (v := 2) d_law_131 (by decide) ?_
  refine z_iadd C d_law_132 ?_
  refine z_sld C hX hbl hbA (hi2) d_law_133 ?_
  refine z_callVi ⟨xN_ok, hG.1⟩ zT_good C (t_R_give hG hw) lc_24 (by decide) rfl rfl (by decide) (by decide) pl_R_give rfl rfl (Nat.le_of_ble_eq_true rfl) d_law_134 (fun r1 h1 hw => ?_)
  refine z_aload_n C (i := 2) d_law_137 rfl rfl ?_
  refine z_aload_n C (i := 0) d_law_138 rfl rfl ?_
  refine z_iload C (i := 4) d_law_139 rfl ?_
  refine z_iconst C (v := 1) d_law_141 (by decide) ?_
  refine z_iadd C d_law_142 ?_
  refine z_sld C hX hbl hbA (hi1) d_law_143 ?_
  refine z_aload_n C (i := 0) d_law_144 rfl rfl ?_
  refine z_iload C (i := 4) d_law_145 rfl ?_
  refine z_iconst C (v := 2) d_law_147 (by decide) ?_
  refine z_iadd C d_law_148 ?_
  refine z_sld C hX hbl hbA (hi2) d_law_149 ?_
  refine z_callVi ⟨xN_ok, hG.1⟩ zT_good C (t_M_give hG hw) lc_28 (by decide) rfl rfl (by decide) (by decide) pl_M_give rfl rfl (Nat.le_of_ble_eq_true rfl) d_law_150 (fun r2 h2 hw => ?_)
  obtain ⟨e12, hI2⟩ := hw
  refine z_icmp_eq C (tgt := 339) d_law_153 (by decide) (fun _ => ?_) (fun q => absurd e12 q)
  refine z_widen (k := 60 + (k + 1)) (n := 7007 + 6 * (k + 1)) (by omega) (by omega) ?_
  exact l_next C1 (by omega) (IH h2 hI2)
set_option maxRecDepth 100000 in
set_option maxHeartbeats 4000000 in
theorem l_feed (hG : xGG E G) (hr : meth.sig.returnType = ret) (hX : va_X b L xs s s.heap) (hbl : b < s.heap.size) (hL : L ≤ 1536) {k : Nat} (hk : 3 * k + 3 ≤ L) (C : lC p s m meth c E G b (60 + k) (7007 + 6 * k)) (IH : ∀ h : zH, Inv h → lZ p l e s m below meth c E b (60 + (k + 1)) (7007 + 6 * (k + 1)) h 23 (lwv E b (k + 1)) []) {h : zH} (hI : Inv h) : lZ p l e s m below meth c E b (60 + k) (7007 + 6 * k) h 158 (lwv E b k) [] := by
  have hbA : ¬ lA s b := fun z => absurd hbl (Nat.not_lt.mpr z)
  have hi1 : vp_in (nI (3 * k) + 1) L := ll_i hk hL 1 (by decide) (by rw [show (1 : Int32) = nI 1 from rfl, nI_add])
  have hi2 : vp_in (nI (3 * k) + 2) L := ll_i hk hL 2 (by decide) (by rw [show (2 : Int32) = nI 2 from rfl, nI_add])
  have C1 : lC p s m meth c E G b (60 + (k + 1)) (7007 + 6 * (k + 1)) := C.at (by omega) (by omega)
  have hw := c_feed (h := h) (a := (xs (nI (3 * k) + 1).toNatClampNeg)) (b := (xs (nI (3 * k) + 2).toNatClampNeg)) (K := fun (r1 r2 : Int32) (h2 : zH) => r1 = r2 ∧ Inv h2) hI (fun r h2 hI2 => ⟨rfl, hI2⟩)
  refine z_aload_n C (i := 1) d_law_158 rfl rfl ?_
  refine z_aload_n C (i := 0) d_law_159 rfl rfl ?_
  refine z_iload C (i := 4) d_law_160 rfl ?_
  refine z_iconst C (v := 1) d_law_162 (by decide) ?_
  refine z_iadd C d_law_163 ?_
  refine z_sld C hX hbl hbA (hi1) d_law_164 ?_
  refine z_aload_n C (i := 0) d_law_165 rfl rfl ?_
  refine z_iload C (i := 4) d_law_166 rfl ?_
  refine z_iconst C (v := 2) d_law_168 (by decide) ?_
  refine z_iadd C d_law_169 ?_
  refine z_sld C hX hbl hbA (hi2) d_law_170 ?_
  refine z_callVi ⟨xN_ok, hG.1⟩ zT_good C (t_R_feed hG hw) lc_29 (by decide) rfl rfl (by decide) (by decide) pl_R_feed rfl rfl (Nat.le_of_ble_eq_true rfl) d_law_171 (fun r1 h1 hw => ?_)
  refine z_aload_n C (i := 2) d_law_174 rfl rfl ?_
  refine z_aload_n C (i := 0) d_law_175 rfl rfl ?_
  refine z_iload C (i := 4) d_law_176 rfl ?_
  refine z_iconst C (v := 1) d_law_178 (by decide) ?_
  refine z_iadd C d_law_179 ?_
  refine z_sld C hX hbl hbA (hi1) d_law_180 ?_
  refine z_aload_n C (i := 0) d_law_181 rfl rfl ?_
  refine z_iload C (i := 4) d_law_182 rfl ?_
  refine z_iconst C (v := 2) d_law_184 (by decide) ?_
  refine z_iadd C d_law_185 ?_
  refine z_sld C hX hbl hbA (hi2) d_law_186 ?_
  refine z_callVi ⟨xN_ok, hG.1⟩ zT_good C (t_M_feed hG hw) lc_32 (by decide) rfl rfl (by decide) (by decide) pl_M_feed rfl rfl (Nat.le_of_ble_eq_true rfl) d_law_187 (fun r2 h2 hw => ?_)
  obtain ⟨e12, hI2⟩ := hw
  refine z_icmp_eq C (tgt := 339) d_law_190 (by decide) (fun _ => ?_) (fun q => absurd e12 q)
  refine z_widen (k := 60 + (k + 1)) (n := 7007 + 6 * (k + 1)) (by omega) (by omega) ?_
  exact l_next C1 (by omega) (IH h2 hI2)
set_option maxRecDepth 100000 in
set_option maxHeartbeats 4000000 in
theorem l_take (hG : xGG E G) (hr : meth.sig.returnType = ret) (hX : va_X b L xs s s.heap) (hbl : b < s.heap.size) (hL : L ≤ 1536) {k : Nat} (hk : 3 * k + 3 ≤ L) (C : lC p s m meth c E G b (60 + k) (7007 + 6 * k)) (IH : ∀ h : zH, Inv h → lZ p l e s m below meth c E b (60 + (k + 1)) (7007 + 6 * (k + 1)) h 23 (lwv E b (k + 1)) []) {h : zH} (hI : Inv h) : lZ p l e s m below meth c E b (60 + k) (7007 + 6 * k) h 195 (lwv E b k) [] := by
  have hbA : ¬ lA s b := fun z => absurd hbl (Nat.not_lt.mpr z)
  have hi1 : vp_in (nI (3 * k) + 1) L := ll_i hk hL 1 (by decide) (by rw [show (1 : Int32) = nI 1 from rfl, nI_add])
  have hi2 : vp_in (nI (3 * k) + 2) L := ll_i hk hL 2 (by decide) (by rw [show (2 : Int32) = nI 2 from rfl, nI_add])
  have C1 : lC p s m meth c E G b (60 + (k + 1)) (7007 + 6 * (k + 1)) := C.at (by omega) (by omega)
  have hw := c_take (h := h) (K := fun (r1 r2 : Int32) (h2 : zH) => r1 = r2 ∧ Inv h2) hI (fun r h2 hI2 => ⟨rfl, hI2⟩)
  refine z_aload_n C (i := 1) d_law_195 rfl rfl ?_
  refine z_callVi ⟨xN_ok, hG.1⟩ zT_good C (t_R_take hG hw) lc_33 (by decide) rfl rfl (by decide) (by decide) pl_R_take rfl rfl (Nat.le_of_ble_eq_true rfl) d_law_196 (fun r1 h1 hw => ?_)
  refine z_aload_n C (i := 2) d_law_199 rfl rfl ?_
  refine z_callVi ⟨xN_ok, hG.1⟩ zT_good C (t_M_take hG hw) lc_37 (by decide) rfl rfl (by decide) (by decide) pl_M_take rfl rfl (Nat.le_of_ble_eq_true rfl) d_law_200 (fun r2 h2 hw => ?_)
  obtain ⟨e12, hI2⟩ := hw
  refine z_icmp_eq C (tgt := 339) d_law_203 (by decide) (fun _ => ?_) (fun q => absurd e12 q)
  refine z_widen (k := 60 + (k + 1)) (n := 7007 + 6 * (k + 1)) (by omega) (by omega) ?_
  exact l_next C1 (by omega) (IH h2 hI2)
set_option maxRecDepth 100000 in
set_option maxHeartbeats 4000000 in
theorem l_part (hG : xGG E G) (hr : meth.sig.returnType = ret) (hX : va_X b L xs s s.heap) (hbl : b < s.heap.size) (hL : L ≤ 1536) {k : Nat} (hk : 3 * k + 3 ≤ L) (C : lC p s m meth c E G b (60 + k) (7007 + 6 * k)) (IH : ∀ h : zH, Inv h → lZ p l e s m below meth c E b (60 + (k + 1)) (7007 + 6 * (k + 1)) h 23 (lwv E b (k + 1)) []) {h : zH} (hI : Inv h) : lZ p l e s m below meth c E b (60 + k) (7007 + 6 * k) h 208 (lwv E b k) [] := by
  have hbA : ¬ lA s b := fun z => absurd hbl (Nat.not_lt.mpr z)
  have hi1 : vp_in (nI (3 * k) + 1) L := ll_i hk hL 1 (by decide) (by rw [show (1 : Int32) = nI 1 from rfl, nI_add])
  have hi2 : vp_in (nI (3 * k) + 2) L := ll_i hk hL 2 (by decide) (by rw [show (2 : Int32) = nI 2 from rfl, nI_add])
  have C1 : lC p s m meth c E G b (60 + (k + 1)) (7007 + 6 * (k + 1)) := C.at (by omega) (by omega)
  have hw := c_part (h := h) (a := (xs (nI (3 * k) + 1).toNatClampNeg)) (b := (xs (nI (3 * k) + 2).toNatClampNeg)) (K := fun (r1 r2 : Int32) (h2 : zH) => r1 = r2 ∧ Inv h2) hI (fun r h2 hI2 => ⟨rfl, hI2⟩)
  refine z_aload_n C (i := 1) d_law_208 rfl rfl ?_
  refine z_aload_n C (i := 0) d_law_209 rfl rfl ?_
  refine z_iload C (i := 4) d_law_210 rfl ?_
  refine z_iconst C (v := 1) d_law_212 (by decide) ?_
  refine z_iadd C d_law_213 ?_
  refine z_sld C hX hbl hbA (hi1) d_law_214 ?_
  refine z_aload_n C (i := 0) d_law_215 rfl rfl ?_
  refine z_iload C (i := 4) d_law_216 rfl ?_
  refine z_iconst C (v := 2) d_law_218 (by decide) ?_
  refine z_iadd C d_law_219 ?_
  refine z_sld C hX hbl hbA (hi2) d_law_220 ?_
  refine z_callVi ⟨xN_ok, hG.1⟩ zT_good C (t_R_part hG hw) lc_38 (by decide) rfl rfl (by decide) (by decide) pl_R_part rfl rfl (Nat.le_of_ble_eq_true rfl) d_law_221 (fun r1 h1 hw => ?_)
  refine z_aload_n C (i := 2) d_law_224 rfl rfl ?_
  refine z_aload_n C (i := 0) d_law_225 rfl rfl ?_
  refine z_iload C (i := 4) d_law_226 rfl ?_
  refine z_iconst C (v := 1) d_law_228 (by decide) ?_
  refine z_iadd C d_law_229 ?_
  refine z_sld C hX hbl hbA (hi1) d_law_230 ?_
  refine z_aload_n C (i := 0) d_law_231 rfl rfl ?_
  refine z_iload C (i := 4) d_law_232 rfl ?_
  refine z_iconst C (v := 2) d_law_234 (by decide) ?_
  refine z_iadd C d_law_235 ?_
  refine z_sld C hX hbl hbA (hi2) d_law_236 ?_
  refine z_callVi ⟨xN_ok, hG.1⟩ zT_good C (t_M_part hG hw) lc_41 (by decide) rfl rfl (by decide) (by decide) pl_M_part rfl rfl (Nat.le_of_ble_eq_true rfl) d_law_237 (fun r2 h2 hw => ?_)
  obtain ⟨e12, hI2⟩ := hw
  refine z_icmp_eq C (tgt := 339) d_law_240 (by decide) (fun _ => ?_) (fun q => absurd e12 q)
  refine z_widen (k := 60 + (k + 1)) (n := 7007 + 6 * (k + 1)) (by omega) (by omega) ?_
  exact l_next C1 (by omega) (IH h2 hI2)
set_option maxRecDepth 100000 in
set_option maxHeartbeats 4000000 in
theorem l_width (hG : xGG E G) (hr : meth.sig.returnType = ret) (hX : va_X b L xs s s.heap) (hbl : b < s.heap.size) (hL : L ≤ 1536) {k : Nat} (hk : 3 * k + 3 ≤ L) (C : lC p s m meth c E G b (60 + k) (7007 + 6 * k)) (IH : ∀ h : zH, Inv h → lZ p l e s m below meth c E b (60 + (k + 1)) (7007 + 6 * (k + 1)) h 23 (lwv E b (k + 1)) []) {h : zH} (hI : Inv h) : lZ p l e s m below meth c E b (60 + k) (7007 + 6 * k) h 300 (lwv E b k) [] := by
  have hbA : ¬ lA s b := fun z => absurd hbl (Nat.not_lt.mpr z)
  have hi1 : vp_in (nI (3 * k) + 1) L := ll_i hk hL 1 (by decide) (by rw [show (1 : Int32) = nI 1 from rfl, nI_add])
  have hi2 : vp_in (nI (3 * k) + 2) L := ll_i hk hL 2 (by decide) (by rw [show (2 : Int32) = nI 2 from rfl, nI_add])
  have C1 : lC p s m meth c E G b (60 + (k + 1)) (7007 + 6 * (k + 1)) := C.at (by omega) (by omega)
  have hw := c_width (h := h) (K := fun (r1 r2 : Int64) (h2 : zH) => r1 = r2 ∧ Inv h2) hI (fun r h2 hI2 => ⟨rfl, hI2⟩)
  refine z_aload_n C (i := 1) d_law_300 rfl rfl ?_
  refine z_callVl ⟨xN_ok, hG.1⟩ zT_good C (t_R_width hG hw) lc_51 (by decide) rfl rfl (by decide) (by decide) pl_R_width rfl rfl (Nat.le_of_ble_eq_true rfl) d_law_301 (fun r1 h1 hw => ?_)
  refine z_aload_n C (i := 2) d_law_304 rfl rfl ?_
  refine z_callVl ⟨xN_ok, hG.1⟩ zT_good C (t_M_width hG hw) lc_55 (by decide) rfl rfl (by decide) (by decide) pl_M_width rfl rfl (Nat.le_of_ble_eq_true rfl) d_law_305 (fun r2 h2 hw => ?_)
  obtain ⟨e12, hI2⟩ := hw
  refine z_lcmp C d_law_308 ?_
  refine z_if_eq C (tgt := 339) d_law_309 (by decide) (fun _ => ?_) (fun q => absurd (by rw [e12]; simp [lg_cmp]) q)
  refine z_widen (k := 60 + (k + 1)) (n := 7007 + 6 * (k + 1)) (by omega) (by omega) ?_
  exact l_next C1 (by omega) (IH h2 hI2)
set_option maxRecDepth 100000 in
set_option maxHeartbeats 4000000 in
theorem l_count (hG : xGG E G) (hr : meth.sig.returnType = ret) (hX : va_X b L xs s s.heap) (hbl : b < s.heap.size) (hL : L ≤ 1536) {k : Nat} (hk : 3 * k + 3 ≤ L) (C : lC p s m meth c E G b (60 + k) (7007 + 6 * k)) (IH : ∀ h : zH, Inv h → lZ p l e s m below meth c E b (60 + (k + 1)) (7007 + 6 * (k + 1)) h 23 (lwv E b (k + 1)) []) {h : zH} (hI : Inv h) : lZ p l e s m below meth c E b (60 + k) (7007 + 6 * k) h 314 (lwv E b k) [] := by
  have hbA : ¬ lA s b := fun z => absurd hbl (Nat.not_lt.mpr z)
  have hi1 : vp_in (nI (3 * k) + 1) L := ll_i hk hL 1 (by decide) (by rw [show (1 : Int32) = nI 1 from rfl, nI_add])
  have hi2 : vp_in (nI (3 * k) + 2) L := ll_i hk hL 2 (by decide) (by rw [show (2 : Int32) = nI 2 from rfl, nI_add])
  have C1 : lC p s m meth c E G b (60 + (k + 1)) (7007 + 6 * (k + 1)) := C.at (by omega) (by omega)
  have hw := c_count (h := h) (a := (xs (nI (3 * k) + 1).toNatClampNeg)) (K := fun (r1 r2 : Int32) (h2 : zH) => r1 = r2 ∧ Inv h2) hI (fun r h2 hI2 => ⟨rfl, hI2⟩)
  refine z_aload_n C (i := 1) d_law_314 rfl rfl ?_
  refine z_aload_n C (i := 0) d_law_315 rfl rfl ?_
  refine z_iload C (i := 4) d_law_316 rfl ?_
  refine z_iconst C (v := 1) d_law_318 (by decide) ?_
  refine z_iadd C d_law_319 ?_
  refine z_sld C hX hbl hbA (hi1) d_law_320 ?_
  refine z_callVi ⟨xN_ok, hG.1⟩ zT_good C (t_R_count hG hw) lc_56 (by decide) rfl rfl (by decide) (by decide) pl_R_count rfl rfl (Nat.le_of_ble_eq_true rfl) d_law_321 (fun r1 h1 hw => ?_)
  refine z_aload_n C (i := 2) d_law_324 rfl rfl ?_
  refine z_aload_n C (i := 0) d_law_325 rfl rfl ?_
  refine z_iload C (i := 4) d_law_326 rfl ?_
  refine z_iconst C (v := 1) d_law_328 (by decide) ?_
  refine z_iadd C d_law_329 ?_
  refine z_sld C hX hbl hbA (hi1) d_law_330 ?_
  refine z_callVi ⟨xN_ok, hG.1⟩ zT_good C (t_M_count hG hw) lc_60 (by decide) rfl rfl (by decide) (by decide) pl_M_count rfl rfl (Nat.le_of_ble_eq_true rfl) d_law_331 (fun r2 h2 hw => ?_)
  obtain ⟨e12, hI2⟩ := hw
  refine z_icmp_eq C (tgt := 339) d_law_334 (by decide) (fun _ => ?_) (fun q => absurd e12 q)
  refine z_widen (k := 60 + (k + 1)) (n := 7007 + 6 * (k + 1)) (by omega) (by omega) ?_
  exact l_next C1 (by omega) (IH h2 hI2)
set_option maxRecDepth 100000 in
set_option maxHeartbeats 4000000 in
theorem l_value2 (hG : xGG E G) (hr : meth.sig.returnType = ret) (hX : va_X b L xs s s.heap) (hbl : b < s.heap.size) (hL : L ≤ 1536) {k : Nat} (hk : 3 * k + 3 ≤ L) (C : lC p s m meth c E G b (60 + (k + 1)) (7007 + 6 * (k + 1))) (IH : ∀ h : zH, Inv h → lZ p l e s m below meth c E b (60 + (k + 1)) (7007 + 6 * (k + 1)) h 23 (lwv E b (k + 1)) []) {h : zH} {r : Int32} (hw : Pv (xs (nI (3 * k) + 1).toNatClampNeg) r h) : lZ p l e s m below meth c E b (60 + (k + 1)) (7007 + 6 * (k + 1)) h 256 (lwv E b k) [.int r] := by
  have hbA : ¬ lA s b := fun z => absurd hbl (Nat.not_lt.mpr z)
  have hi1 : vp_in (nI (3 * k) + 1) L := ll_i hk hL 1 (by decide) (by rw [show (1 : Int32) = nI 1 from rfl, nI_add])
  unfold Pv at hw
  refine z_istore C (i := 5) d_law_256 (by decide) rfl ?_
  refine z_lv (lv2 := [some (.ref b), some (.ref (E.2.2.1 0)), some (.ref (E.2.2.1 39)), some (.ref (E.2.2.1 59)), some (.int (nI (3 * k))), some (.int r), none, none]) rfl ?_
  refine z_aload_n C (i := 2) d_law_258 rfl rfl ?_
  refine z_aload_n C (i := 0) d_law_259 rfl rfl ?_
  refine z_iload C (i := 4) d_law_260 rfl ?_
  refine z_iconst C (v := 1) d_law_262 (by decide) ?_
  refine z_iadd C d_law_263 ?_
  refine z_sld C hX hbl hbA (hi1) d_law_264 ?_
  refine z_callVl ⟨xN_ok, hG.1⟩ zT_good C (t_M_value hG hw) lc_47 (by decide) rfl rfl (by decide) (by decide) pl_M_value rfl rfl (Nat.le_of_ble_eq_true rfl) d_law_265 (fun r2 h2 hw => ?_)
  refine z_lstore C (i := 6) d_law_268 (by decide) rfl ?_
  refine z_lv (lv2 := [some (.ref b), some (.ref (E.2.2.1 0)), some (.ref (E.2.2.1 39)), some (.ref (E.2.2.1 59)), some (.int (nI (3 * k))), some (.int r), some (.long r2), none]) rfl ?_
  refine z_aload_n C (i := 2) d_law_270 rfl rfl ?_
  refine z_callVi ⟨xN_ok, hG.1⟩ zT_good C (t_M_thrown hG hw) lc_48 (by decide) rfl rfl (by decide) (by decide) pl_M_thrown rfl rfl (Nat.le_of_ble_eq_true rfl) d_law_271 (fun r3 h3 hw => ?_)
  obtain ⟨e3, e4, hI3⟩ := hw
  have fin : lZ p l e s m below meth c E b (60 + (k + 1)) (7007 + 6 * (k + 1)) h3 297 [some (.ref b), some (.ref (E.2.2.1 0)), some (.ref (E.2.2.1 39)), some (.ref (E.2.2.1 59)), some (.int (nI (3 * k))), some (.int r), some (.long r2), none] [] := by
    refine z_goto C (tgt := 339) d_law_297 (by decide) ?_
    refine z_le (lv2 := lwv E b k) ⟨rfl, rfl, rfl, rfl, rfl, trivial⟩ ?_
    exact l_next C (by omega) (IH h3 hI3)
  refine z_iload C (i := 5) d_law_274 rfl ?_
  refine z_icmp_eq C (tgt := 281) d_law_276 (by decide) (fun _ => ?_) (fun q => absurd e3 q)
  refine z_iload C (i := 5) d_law_281 rfl ?_
  refine z_if_ne C (tgt := 297) d_law_283 (by decide) (fun _ => fin) (fun q => ?_)
  refine z_aload_n C (i := 3) d_law_286 rfl rfl ?_
  refine z_iconst C (v := 0) d_law_287 (by decide) ?_
  refine z_lald C (k := 59) (n := 1) (by decide) rfl (show ¬ ((0 : Int32) < 0 ∨ 1 ≤ (0 : Int32).toNatClampNeg) from by decide) d_law_288 ?_
  refine z_lload C (i := 6) d_law_289 rfl ?_
  refine z_lcmp C d_law_291 ?_
  refine z_if_eq C (tgt := 297) d_law_292 (by decide) (fun _ => fin) (fun q2 => absurd (by rw [show (0 : Int32).toNatClampNeg = 0 from rfl, e4 q]; simp [lg_cmp]) q2)
set_option maxRecDepth 100000 in
set_option maxHeartbeats 4000000 in
theorem l_value (hl : l.stackTraces = false) (hO : ∀ (A : Nat → Prop) (U : State), G A U → xO A U) (hG : xGG E G) (hr : meth.sig.returnType = ret) (hX : va_X b L xs s s.heap) (hbl : b < s.heap.size) (hL : L ≤ 1536) {k : Nat} (hk : 3 * k + 3 ≤ L) (C : lC p s m meth c E G b (60 + k) (7007 + 6 * k)) (IH : ∀ h : zH, Inv h → lZ p l e s m below meth c E b (60 + (k + 1)) (7007 + 6 * (k + 1)) h 23 (lwv E b (k + 1)) []) {h : zH} (hI : Inv h) : lZ p l e s m below meth c E b (60 + k) (7007 + 6 * k) h 245 (lwv E b k) [] := by
  have hbA : ¬ lA s b := fun z => absurd hbl (Nat.not_lt.mpr z)
  have hi1 : vp_in (nI (3 * k) + 1) L := ll_i hk hL 1 (by decide) (by rw [show (1 : Int32) = nI 1 from rfl, nI_add])
  have C1 : lC p s m meth c E G b (60 + (k + 1)) (7007 + 6 * (k + 1)) := C.at (by omega) (by omega)
  refine z_aload_n C (i := 1) d_law_245 rfl rfl ?_
  refine z_aload_n C (i := 0) d_law_246 rfl rfl ?_
  refine z_iload C (i := 4) d_law_247 rfl ?_
  refine z_iconst C (v := 1) d_law_249 (by decide) ?_
  refine z_iadd C d_law_250 ?_
  refine z_sld C hX hbl hbA (hi1) d_law_251 ?_
  refine z_aload_n C (i := 3) d_law_252 rfl rfl ?_
  rcases c_value (xs (nI (3 * k) + 1).toNatClampNeg) hI with hw | ⟨hk3, hn, hw⟩
  · refine z_callSW hG.1 C (t_L_value hG (post := fun r h2 => Pv (xs (nI (3 * k) + 1).toNatClampNeg) r h2) hw) lw_42 lw_st lw_it lw_cw (by decide) (by decide) pl_L_value rfl rfl (Nat.le_of_ble_eq_true rfl) d_law_253 C.2.2.2.2.1.1 C.2.2.2.2.1.2 (fun v h2 hw => ?_)
    refine z_widen (k := 60 + (k + 1)) (n := 7007 + 6 * (k + 1)) (by omega) (by omega) ?_
    exact l_value2 hG hr hX hbl hL hk C1 IH hw
  · refine z_callSW hG.1 C (x_L_value hl hG hO hk3 hn (post := fun r h2 => Pv (xs (nI (3 * k) + 1).toNatClampNeg) r h2) hw) lw_42 lw_st lw_it lw_cw (by decide) (by decide) pl_L_value rfl rfl (Nat.le_of_ble_eq_true rfl) d_law_253 (by have := C1.2.2.2.2.1.1; omega) (by have := C1.2.2.2.2.1.2; omega) (fun v h2 hw => ?_)
    refine z_widen (k := 60 + (k + 1)) (n := 7007 + 6 * (k + 1)) (by omega) (by omega) ?_
    exact l_value2 hG hr hX hbl hL hk C1 IH hw
set_option maxRecDepth 100000 in
set_option maxHeartbeats 4000000 in
theorem l_step (hl : l.stackTraces = false) (hO : ∀ (A : Nat → Prop) (U : State), G A U → xO A U) (hG : xGG E G) (hr : meth.sig.returnType = ret) (hX : va_X b L xs s s.heap) (hbl : b < s.heap.size) (hL : L ≤ 1536) {k : Nat} (hk : 3 * k + 3 ≤ L) (C : lC p s m meth c E G b (60 + k) (7007 + 6 * k)) (IH : ∀ h : zH, Inv h → lZ p l e s m below meth c E b (60 + (k + 1)) (7007 + 6 * (k + 1)) h 23 (lwv E b (k + 1)) []) {h : zH} (hI : Inv h) : lZ p l e s m below meth c E b (60 + k) (7007 + 6 * k) h 32 (lwv E b k) [] := by
  have hbA : ¬ lA s b := fun z => absurd hbl (Nat.not_lt.mpr z)
  have C1 : lC p s m meth c E G b (60 + (k + 1)) (7007 + 6 * (k + 1)) := C.at (by omega) (by omega)
  refine z_aload_n C (i := 0) d_law_32 rfl rfl ?_
  refine z_iload C (i := 4) d_law_33 rfl ?_
  refine z_sld C hX hbl hbA (ll_i hk hL 0 (by decide) rfl) d_law_35 ?_
  refine z_bipush C (v := 7) d_law_36 (by decide) ?_
  refine z_iand C d_law_38 ?_
  generalize xs (nI (3 * k)).toNatClampNeg &&& 7 = w
  refine z_tcase C (off := 45) (tgt := 84) (0 : Int32) d_law_39 (by decide) (by decide) rfl (by decide) (fun _ => l_variable hG hr hX hbl hL hk C IH hI) (fun q0 => ?_)
  refine z_tcase C (off := 82) (tgt := 121) (1 : Int32) d_law_39 (by decide) (by decide) rfl (by decide) (fun _ => l_give hG hr hX hbl hL hk C IH hI) (fun q1 => ?_)
  refine z_tcase C (off := 119) (tgt := 158) (2 : Int32) d_law_39 (by decide) (by decide) rfl (by decide) (fun _ => l_feed hG hr hX hbl hL hk C IH hI) (fun q2 => ?_)
  refine z_tcase C (off := 156) (tgt := 195) (3 : Int32) d_law_39 (by decide) (by decide) rfl (by decide) (fun _ => l_take hG hr hX hbl hL hk C IH hI) (fun q3 => ?_)
  refine z_tcase C (off := 169) (tgt := 208) (4 : Int32) d_law_39 (by decide) (by decide) rfl (by decide) (fun _ => l_part hG hr hX hbl hL hk C IH hI) (fun q4 => ?_)
  refine z_tcase C (off := 206) (tgt := 245) (5 : Int32) d_law_39 (by decide) (by decide) rfl (by decide) (fun _ => l_value hl hO hG hr hX hbl hL hk C IH hI) (fun q5 => ?_)
  refine z_tcase C (off := 261) (tgt := 300) (6 : Int32) d_law_39 (by decide) (by decide) rfl (by decide) (fun _ => l_width hG hr hX hbl hL hk C IH hI) (fun q6 => ?_)
  refine z_tcase C (off := 275) (tgt := 314) (7 : Int32) d_law_39 (by decide) (by decide) rfl (by decide) (fun _ => l_count hG hr hX hbl hL hk C IH hI) (fun q7 => ?_)
  refine z_tabOut C (tgt := 339) d_law_39 ?_ (by decide) ?_
  · have hne : ∀ v : Int32, ¬ w = v → w.toInt ≠ v.toInt := fun v hv z => hv (by rw [← i_of w, ← i_of v, z])
    have g0 := hne 0 q0
    have g1 := hne 1 q1
    have g2 := hne 2 q2
    have g3 := hne 3 q3
    have g4 := hne 4 q4
    have g5 := hne 5 q5
    have g6 := hne 6 q6
    have g7 := hne 7 q7
    rw [show (0 : Int32).toInt = 0 from rfl] at g0
    rw [show (1 : Int32).toInt = 1 from rfl] at g1
    rw [show (2 : Int32).toInt = 2 from rfl] at g2
    rw [show (3 : Int32).toInt = 3 from rfl] at g3
    rw [show (4 : Int32).toInt = 4 from rfl] at g4
    rw [show (5 : Int32).toInt = 5 from rfl] at g5
    rw [show (6 : Int32).toInt = 6 from rfl] at g6
    rw [show (7 : Int32).toInt = 7 from rfl] at g7
    omega
  · refine z_widen (k := 60 + (k + 1)) (n := 7007 + 6 * (k + 1)) (by omega) (by omega) ?_
    exact l_next C1 (by omega) (IH h hI)
set_option maxRecDepth 100000 in
set_option maxHeartbeats 4000000 in
theorem l_loop (hl : l.stackTraces = false) (hO : ∀ (A : Nat → Prop) (U : State), G A U → xO A U) (hG : xGG E G) (hr : meth.sig.returnType = ret) (hX : va_X b L xs s s.heap) (hbl : b < s.heap.size) (hL : L ≤ 1536) (C0 : lC p s m meth c E G b 0 0) : ∀ (n k : Nat) (h : zH), 512 ≤ k + n → k ≤ 512 → Inv h → lZ p l e s m below meth c E b (60 + k) (7007 + 6 * k) h 23 (lwv E b k) [] := by
  intro n
  induction n with
  | zero =>
    intro k h h1 h2 hI
    have C : lC p s m meth c E G b (60 + k) (7007 + 6 * k) := C0.at (by omega) (by omega)
    have hbA : ¬ lA s b := fun z => absurd hbl (Nat.not_lt.mpr z)
    refine z_iload C (i := 4) d_law_23 rfl ?_
    refine z_aload_n C (i := 0) d_law_25 rfl rfl ?_
    refine z_slen C hX hbl hbA d_law_26 ?_
    refine z_iconst C (v := 3) d_law_27 (by decide) ?_
    refine z_isub C d_law_28 ?_
    refine z_icmp_gt C (tgt := 345) d_law_29 (by decide) (fun _ => l_end C hr) (fun q => ?_)
    have := l_cmp hL (by omega) q
    omega
  | succ n ih =>
    intro k h h1 h2 hI
    have C : lC p s m meth c E G b (60 + k) (7007 + 6 * k) := C0.at (by omega) (by omega)
    have hbA : ¬ lA s b := fun z => absurd hbl (Nat.not_lt.mpr z)
    refine z_iload C (i := 4) d_law_23 rfl ?_
    refine z_aload_n C (i := 0) d_law_25 rfl rfl ?_
    refine z_slen C hX hbl hbA d_law_26 ?_
    refine z_iconst C (v := 3) d_law_27 (by decide) ?_
    refine z_isub C d_law_28 ?_
    refine z_icmp_gt C (tgt := 345) d_law_29 (by decide) (fun _ => l_end C hr) (fun q => ?_)
    have hk := l_cmp hL (by omega) q
    exact l_step hl hO hG hr hX hbl hL hk C (fun h2 hI2 => ih (k + 1) h2 (by omega) (by omega) hI2) hI

end LL
