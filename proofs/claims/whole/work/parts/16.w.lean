theorem d_N_reckon_0 : decode prog_4_method_5_code 0 = .ok (.iload_n 1, 1) := by decide +kernel
theorem d_N_reckon_1 : decode prog_4_method_5_code 1 = .ok (.tableswitch (370) (7) (26) #[341, 370, 112, 137, 162, 205, 266, 370, 370, 370, 370, 370, 370, 370, 370, 370, 275, 304, 333, 95], 95) := by decide +kernel
theorem d_N_reckon_96 : decode prog_4_method_5_code 96 = .ok (.aload_n 0, 1) := by decide +kernel
theorem d_N_reckon_97 : decode prog_4_method_5_code 97 = .ok (.aload_n 3, 1) := by decide +kernel
theorem d_N_reckon_98 : decode prog_4_method_5_code 98 = .ok (.getfield 15, 3) := by decide +kernel
theorem d_N_reckon_101 : decode prog_4_method_5_code 101 = .ok (.lneg, 1) := by decide +kernel
theorem d_N_reckon_102 : decode prog_4_method_5_code 102 = .ok (.aload_n 3, 1) := by decide +kernel
theorem d_N_reckon_103 : decode prog_4_method_5_code 103 = .ok (.getfield 9, 3) := by decide +kernel
theorem d_N_reckon_106 : decode prog_4_method_5_code 106 = .ok (.lneg, 1) := by decide +kernel
theorem d_N_reckon_107 : decode prog_4_method_5_code 107 = .ok (.invokevirtual 22, 3) := by decide +kernel
theorem d_N_reckon_110 : decode prog_4_method_5_code 110 = .ok (.goto (267), 3) := by decide +kernel
theorem d_N_reckon_113 : decode prog_4_method_5_code 113 = .ok (.aload_n 0, 1) := by decide +kernel
theorem d_N_reckon_114 : decode prog_4_method_5_code 114 = .ok (.aload_n 2, 1) := by decide +kernel
theorem d_N_reckon_115 : decode prog_4_method_5_code 115 = .ok (.getfield 9, 3) := by decide +kernel
theorem d_N_reckon_118 : decode prog_4_method_5_code 118 = .ok (.aload_n 3, 1) := by decide +kernel
theorem d_N_reckon_119 : decode prog_4_method_5_code 119 = .ok (.getfield 9, 3) := by decide +kernel
theorem d_N_reckon_122 : decode prog_4_method_5_code 122 = .ok (.ladd, 1) := by decide +kernel
theorem d_N_reckon_123 : decode prog_4_method_5_code 123 = .ok (.aload_n 2, 1) := by decide +kernel
theorem d_N_reckon_124 : decode prog_4_method_5_code 124 = .ok (.getfield 15, 3) := by decide +kernel
theorem d_N_reckon_127 : decode prog_4_method_5_code 127 = .ok (.aload_n 3, 1) := by decide +kernel
theorem d_N_reckon_128 : decode prog_4_method_5_code 128 = .ok (.getfield 15, 3) := by decide +kernel
theorem d_N_reckon_131 : decode prog_4_method_5_code 131 = .ok (.ladd, 1) := by decide +kernel
theorem d_N_reckon_132 : decode prog_4_method_5_code 132 = .ok (.invokevirtual 22, 3) := by decide +kernel
theorem d_N_reckon_135 : decode prog_4_method_5_code 135 = .ok (.goto (242), 3) := by decide +kernel
theorem d_N_reckon_138 : decode prog_4_method_5_code 138 = .ok (.aload_n 0, 1) := by decide +kernel
theorem d_N_reckon_139 : decode prog_4_method_5_code 139 = .ok (.aload_n 2, 1) := by decide +kernel
theorem d_N_reckon_140 : decode prog_4_method_5_code 140 = .ok (.getfield 9, 3) := by decide +kernel
theorem d_N_reckon_143 : decode prog_4_method_5_code 143 = .ok (.aload_n 3, 1) := by decide +kernel
theorem d_N_reckon_144 : decode prog_4_method_5_code 144 = .ok (.getfield 15, 3) := by decide +kernel
theorem d_N_reckon_147 : decode prog_4_method_5_code 147 = .ok (.lsub, 1) := by decide +kernel
theorem d_N_reckon_148 : decode prog_4_method_5_code 148 = .ok (.aload_n 2, 1) := by decide +kernel
theorem d_N_reckon_149 : decode prog_4_method_5_code 149 = .ok (.getfield 15, 3) := by decide +kernel
theorem d_N_reckon_152 : decode prog_4_method_5_code 152 = .ok (.aload_n 3, 1) := by decide +kernel
theorem d_N_reckon_153 : decode prog_4_method_5_code 153 = .ok (.getfield 9, 3) := by decide +kernel
theorem d_N_reckon_156 : decode prog_4_method_5_code 156 = .ok (.lsub, 1) := by decide +kernel
theorem d_N_reckon_157 : decode prog_4_method_5_code 157 = .ok (.invokevirtual 22, 3) := by decide +kernel
theorem d_N_reckon_160 : decode prog_4_method_5_code 160 = .ok (.goto (217), 3) := by decide +kernel
theorem d_N_reckon_163 : decode prog_4_method_5_code 163 = .ok (.aload_n 0, 1) := by decide +kernel
theorem d_N_reckon_164 : decode prog_4_method_5_code 164 = .ok (.aload_n 2, 1) := by decide +kernel
theorem d_N_reckon_165 : decode prog_4_method_5_code 165 = .ok (.getfield 9, 3) := by decide +kernel
theorem d_N_reckon_168 : decode prog_4_method_5_code 168 = .ok (.aload_n 3, 1) := by decide +kernel
theorem d_N_reckon_169 : decode prog_4_method_5_code 169 = .ok (.getfield 9, 3) := by decide +kernel
theorem d_N_reckon_172 : decode prog_4_method_5_code 172 = .ok (.lmul, 1) := by decide +kernel
theorem d_N_reckon_173 : decode prog_4_method_5_code 173 = .ok (.aload_n 2, 1) := by decide +kernel
theorem d_N_reckon_174 : decode prog_4_method_5_code 174 = .ok (.getfield 9, 3) := by decide +kernel
theorem d_N_reckon_177 : decode prog_4_method_5_code 177 = .ok (.aload_n 3, 1) := by decide +kernel
theorem d_N_reckon_178 : decode prog_4_method_5_code 178 = .ok (.getfield 15, 3) := by decide +kernel
theorem d_N_reckon_181 : decode prog_4_method_5_code 181 = .ok (.lmul, 1) := by decide +kernel
theorem d_N_reckon_182 : decode prog_4_method_5_code 182 = .ok (.aload_n 2, 1) := by decide +kernel
theorem d_N_reckon_183 : decode prog_4_method_5_code 183 = .ok (.getfield 15, 3) := by decide +kernel
theorem d_N_reckon_186 : decode prog_4_method_5_code 186 = .ok (.aload_n 3, 1) := by decide +kernel
theorem d_N_reckon_187 : decode prog_4_method_5_code 187 = .ok (.getfield 9, 3) := by decide +kernel
theorem d_N_reckon_190 : decode prog_4_method_5_code 190 = .ok (.lmul, 1) := by decide +kernel
theorem d_N_reckon_191 : decode prog_4_method_5_code 191 = .ok (.aload_n 2, 1) := by decide +kernel
theorem d_N_reckon_192 : decode prog_4_method_5_code 192 = .ok (.getfield 15, 3) := by decide +kernel
theorem d_N_reckon_195 : decode prog_4_method_5_code 195 = .ok (.aload_n 3, 1) := by decide +kernel
theorem d_N_reckon_196 : decode prog_4_method_5_code 196 = .ok (.getfield 15, 3) := by decide +kernel
theorem d_N_reckon_199 : decode prog_4_method_5_code 199 = .ok (.lmul, 1) := by decide +kernel
theorem d_N_reckon_200 : decode prog_4_method_5_code 200 = .ok (.invokevirtual 26, 3) := by decide +kernel
theorem d_N_reckon_203 : decode prog_4_method_5_code 203 = .ok (.goto (174), 3) := by decide +kernel
theorem d_N_reckon_206 : decode prog_4_method_5_code 206 = .ok (.aload_n 3, 1) := by decide +kernel
theorem d_N_reckon_207 : decode prog_4_method_5_code 207 = .ok (.getfield 9, 3) := by decide +kernel
theorem d_N_reckon_210 : decode prog_4_method_5_code 210 = .ok (.lconst 0, 1) := by decide +kernel
theorem d_N_reckon_211 : decode prog_4_method_5_code 211 = .ok (.lcmp, 1) := by decide +kernel
theorem d_N_reckon_212 : decode prog_4_method_5_code 212 = .ok (.ifCond .eq (165), 3) := by decide +kernel
theorem d_N_reckon_215 : decode prog_4_method_5_code 215 = .ok (.aload_n 3, 1) := by decide +kernel
theorem d_N_reckon_216 : decode prog_4_method_5_code 216 = .ok (.getfield 15, 3) := by decide +kernel
theorem d_N_reckon_219 : decode prog_4_method_5_code 219 = .ok (.lconst 0, 1) := by decide +kernel
theorem d_N_reckon_220 : decode prog_4_method_5_code 220 = .ok (.lcmp, 1) := by decide +kernel
theorem d_N_reckon_221 : decode prog_4_method_5_code 221 = .ok (.ifCond .eq (156), 3) := by decide +kernel
theorem d_N_reckon_224 : decode prog_4_method_5_code 224 = .ok (.aload_n 0, 1) := by decide +kernel
theorem d_N_reckon_225 : decode prog_4_method_5_code 225 = .ok (.aload_n 2, 1) := by decide +kernel
theorem d_N_reckon_226 : decode prog_4_method_5_code 226 = .ok (.getfield 9, 3) := by decide +kernel
theorem d_N_reckon_229 : decode prog_4_method_5_code 229 = .ok (.aload_n 3, 1) := by decide +kernel
theorem d_N_reckon_230 : decode prog_4_method_5_code 230 = .ok (.getfield 9, 3) := by decide +kernel
theorem d_N_reckon_233 : decode prog_4_method_5_code 233 = .ok (.ldiv, 1) := by decide +kernel
theorem d_N_reckon_234 : decode prog_4_method_5_code 234 = .ok (.aload_n 2, 1) := by decide +kernel
theorem d_N_reckon_235 : decode prog_4_method_5_code 235 = .ok (.getfield 9, 3) := by decide +kernel
theorem d_N_reckon_238 : decode prog_4_method_5_code 238 = .ok (.aload_n 3, 1) := by decide +kernel
theorem d_N_reckon_239 : decode prog_4_method_5_code 239 = .ok (.getfield 15, 3) := by decide +kernel
theorem d_N_reckon_242 : decode prog_4_method_5_code 242 = .ok (.ldiv, 1) := by decide +kernel
theorem d_N_reckon_243 : decode prog_4_method_5_code 243 = .ok (.aload_n 2, 1) := by decide +kernel
theorem d_N_reckon_244 : decode prog_4_method_5_code 244 = .ok (.getfield 15, 3) := by decide +kernel
theorem d_N_reckon_247 : decode prog_4_method_5_code 247 = .ok (.aload_n 3, 1) := by decide +kernel
theorem d_N_reckon_248 : decode prog_4_method_5_code 248 = .ok (.getfield 9, 3) := by decide +kernel
theorem d_N_reckon_251 : decode prog_4_method_5_code 251 = .ok (.ldiv, 1) := by decide +kernel
theorem d_N_reckon_252 : decode prog_4_method_5_code 252 = .ok (.aload_n 2, 1) := by decide +kernel
theorem d_N_reckon_253 : decode prog_4_method_5_code 253 = .ok (.getfield 15, 3) := by decide +kernel
theorem d_N_reckon_256 : decode prog_4_method_5_code 256 = .ok (.aload_n 3, 1) := by decide +kernel
theorem d_N_reckon_257 : decode prog_4_method_5_code 257 = .ok (.getfield 15, 3) := by decide +kernel
theorem d_N_reckon_260 : decode prog_4_method_5_code 260 = .ok (.ldiv, 1) := by decide +kernel
theorem d_N_reckon_261 : decode prog_4_method_5_code 261 = .ok (.invokevirtual 26, 3) := by decide +kernel
theorem d_N_reckon_264 : decode prog_4_method_5_code 264 = .ok (.goto (113), 3) := by decide +kernel
theorem d_N_reckon_267 : decode prog_4_method_5_code 267 = .ok (.aload_n 0, 1) := by decide +kernel
theorem d_N_reckon_268 : decode prog_4_method_5_code 268 = .ok (.aload_n 2, 1) := by decide +kernel
theorem d_N_reckon_269 : decode prog_4_method_5_code 269 = .ok (.aload_n 3, 1) := by decide +kernel
theorem d_N_reckon_270 : decode prog_4_method_5_code 270 = .ok (.invokevirtual 30, 3) := by decide +kernel
theorem d_N_reckon_273 : decode prog_4_method_5_code 273 = .ok (.goto (104), 3) := by decide +kernel
theorem d_N_reckon_276 : decode prog_4_method_5_code 276 = .ok (.aload_n 0, 1) := by decide +kernel
theorem d_N_reckon_277 : decode prog_4_method_5_code 277 = .ok (.aload_n 2, 1) := by decide +kernel
theorem d_N_reckon_278 : decode prog_4_method_5_code 278 = .ok (.getfield 9, 3) := by decide +kernel
theorem d_N_reckon_281 : decode prog_4_method_5_code 281 = .ok (.aload_n 3, 1) := by decide +kernel
theorem d_N_reckon_282 : decode prog_4_method_5_code 282 = .ok (.getfield 9, 3) := by decide +kernel
theorem d_N_reckon_285 : decode prog_4_method_5_code 285 = .ok (.invokestatic 34, 3) := by decide +kernel
theorem d_N_reckon_288 : decode prog_4_method_5_code 288 = .ok (.aload_n 2, 1) := by decide +kernel
theorem d_N_reckon_289 : decode prog_4_method_5_code 289 = .ok (.getfield 15, 3) := by decide +kernel
theorem d_N_reckon_292 : decode prog_4_method_5_code 292 = .ok (.aload_n 3, 1) := by decide +kernel
theorem d_N_reckon_293 : decode prog_4_method_5_code 293 = .ok (.getfield 15, 3) := by decide +kernel
theorem d_N_reckon_296 : decode prog_4_method_5_code 296 = .ok (.invokestatic 34, 3) := by decide +kernel
theorem d_N_reckon_299 : decode prog_4_method_5_code 299 = .ok (.invokevirtual 22, 3) := by decide +kernel
theorem d_N_reckon_302 : decode prog_4_method_5_code 302 = .ok (.goto (75), 3) := by decide +kernel
theorem d_N_reckon_305 : decode prog_4_method_5_code 305 = .ok (.aload_n 0, 1) := by decide +kernel
theorem d_N_reckon_306 : decode prog_4_method_5_code 306 = .ok (.aload_n 2, 1) := by decide +kernel
theorem d_N_reckon_307 : decode prog_4_method_5_code 307 = .ok (.getfield 9, 3) := by decide +kernel
theorem d_N_reckon_310 : decode prog_4_method_5_code 310 = .ok (.aload_n 3, 1) := by decide +kernel
theorem d_N_reckon_311 : decode prog_4_method_5_code 311 = .ok (.getfield 9, 3) := by decide +kernel
theorem d_N_reckon_314 : decode prog_4_method_5_code 314 = .ok (.invokestatic 40, 3) := by decide +kernel
theorem d_N_reckon_317 : decode prog_4_method_5_code 317 = .ok (.aload_n 2, 1) := by decide +kernel
theorem d_N_reckon_318 : decode prog_4_method_5_code 318 = .ok (.getfield 15, 3) := by decide +kernel
theorem d_N_reckon_321 : decode prog_4_method_5_code 321 = .ok (.aload_n 3, 1) := by decide +kernel
theorem d_N_reckon_322 : decode prog_4_method_5_code 322 = .ok (.getfield 15, 3) := by decide +kernel
theorem d_N_reckon_325 : decode prog_4_method_5_code 325 = .ok (.invokestatic 40, 3) := by decide +kernel
theorem d_N_reckon_328 : decode prog_4_method_5_code 328 = .ok (.invokevirtual 22, 3) := by decide +kernel
theorem d_N_reckon_331 : decode prog_4_method_5_code 331 = .ok (.goto (46), 3) := by decide +kernel
theorem d_N_reckon_334 : decode prog_4_method_5_code 334 = .ok (.aload_n 0, 1) := by decide +kernel
theorem d_N_reckon_335 : decode prog_4_method_5_code 335 = .ok (.aload_n 3, 1) := by decide +kernel
theorem d_N_reckon_336 : decode prog_4_method_5_code 336 = .ok (.invokevirtual 43, 3) := by decide +kernel
theorem d_N_reckon_339 : decode prog_4_method_5_code 339 = .ok (.goto (38), 3) := by decide +kernel
theorem d_N_reckon_342 : decode prog_4_method_5_code 342 = .ok (.aload_n 0, 1) := by decide +kernel
theorem d_N_reckon_343 : decode prog_4_method_5_code 343 = .ok (.aload_n 2, 1) := by decide +kernel
theorem d_N_reckon_344 : decode prog_4_method_5_code 344 = .ok (.getfield 9, 3) := by decide +kernel
theorem d_N_reckon_347 : decode prog_4_method_5_code 347 = .ok (.aload_n 3, 1) := by decide +kernel
theorem d_N_reckon_348 : decode prog_4_method_5_code 348 = .ok (.getfield 9, 3) := by decide +kernel
theorem d_N_reckon_351 : decode prog_4_method_5_code 351 = .ok (.invokestatic 34, 3) := by decide +kernel
theorem d_N_reckon_354 : decode prog_4_method_5_code 354 = .ok (.aload_n 2, 1) := by decide +kernel
theorem d_N_reckon_355 : decode prog_4_method_5_code 355 = .ok (.getfield 15, 3) := by decide +kernel
theorem d_N_reckon_358 : decode prog_4_method_5_code 358 = .ok (.aload_n 3, 1) := by decide +kernel
theorem d_N_reckon_359 : decode prog_4_method_5_code 359 = .ok (.getfield 15, 3) := by decide +kernel
theorem d_N_reckon_362 : decode prog_4_method_5_code 362 = .ok (.invokestatic 40, 3) := by decide +kernel
theorem d_N_reckon_365 : decode prog_4_method_5_code 365 = .ok (.invokevirtual 22, 3) := by decide +kernel
theorem d_N_reckon_368 : decode prog_4_method_5_code 368 = .ok (.goto (9), 3) := by decide +kernel
theorem d_N_reckon_371 : decode prog_4_method_5_code 371 = .ok (.aload_n 0, 1) := by decide +kernel
theorem d_N_reckon_372 : decode prog_4_method_5_code 372 = .ok (.lconst 0, 1) := by decide +kernel
theorem d_N_reckon_373 : decode prog_4_method_5_code 373 = .ok (.lconst 1, 1) := by decide +kernel
theorem d_N_reckon_374 : decode prog_4_method_5_code 374 = .ok (.invokevirtual 22, 3) := by decide +kernel
theorem d_N_reckon_377 : decode prog_4_method_5_code 377 = .ok (.return_, 1) := by decide +kernel
def b_N_reckon_377 (k : Nat) (l2 : Nat) (l3 : Nat) (post : zH → Prop) (h : zH) : Prop := post h
def b_N_reckon_371 (k : Nat) (l2 : Nat) (l3 : Nat) (post : zH → Prop) (h : zH) : Prop := wp_N_put k (0) (1) h (fun (h2 : zH) => b_N_reckon_377 k l2 l3 post  h2)
def wp_N_reckon (k : Nat) (l1 : Int32) (l2 : Nat) (l3 : Nat) (h : zH) (post : zH → Prop) : Prop := xRg k ∧ xRg l2 ∧ xRg l3 ∧ ((l1 = 7 → wp_N_put k ((if (h.2.1 l3 0) < (h.2.1 l2 0) then (h.2.1 l3 0) else (h.2.1 l2 0))) ((if (h.2.1 l3 1) < (h.2.1 l2 1) then (h.2.1 l2 1) else (h.2.1 l3 1))) h (fun (h4 : zH) => b_N_reckon_377 k l2 l3 post  h4)) ∧ (¬ l1 = 7 → ((l1 = 8 → b_N_reckon_371 k l2 l3 post  h) ∧ (¬ l1 = 8 → ((l1 = 9 → wp_N_put k (((h.2.1 l2 0) + (h.2.1 l3 0))) (((h.2.1 l2 1) + (h.2.1 l3 1))) h (fun (h6 : zH) => b_N_reckon_377 k l2 l3 post  h6)) ∧ (¬ l1 = 9 → ((l1 = 10 → wp_N_put k (((h.2.1 l2 0) - (h.2.1 l3 1))) (((h.2.1 l2 1) - (h.2.1 l3 0))) h (fun (h8 : zH) => b_N_reckon_377 k l2 l3 post  h8)) ∧ (¬ l1 = 10 → ((l1 = 11 → wp_N_cover k (((h.2.1 l2 0) * (h.2.1 l3 0))) (((h.2.1 l2 0) * (h.2.1 l3 1))) (((h.2.1 l2 1) * (h.2.1 l3 0))) (((h.2.1 l2 1) * (h.2.1 l3 1))) h (fun (h10 : zH) => b_N_reckon_377 k l2 l3 post  h10)) ∧ (¬ l1 = 11 → ((l1 = 12 → (((lg_cmp (h.2.1 l3 0) 0) = 0 → b_N_reckon_377 k l2 l3 post  h) ∧ (¬ (lg_cmp (h.2.1 l3 0) 0) = 0 → (((lg_cmp (h.2.1 l3 1) 0) = 0 → b_N_reckon_377 k l2 l3 post  h) ∧ (¬ (lg_cmp (h.2.1 l3 1) 0) = 0 → (¬ (h.2.1 l3 0) = 0 ∧ (¬ (h.2.1 l3 1) = 0 ∧ (¬ (h.2.1 l3 0) = 0 ∧ (¬ (h.2.1 l3 1) = 0 ∧ wp_N_cover k (((h.2.1 l2 0) / (h.2.1 l3 0))) (((h.2.1 l2 0) / (h.2.1 l3 1))) (((h.2.1 l2 1) / (h.2.1 l3 0))) (((h.2.1 l2 1) / (h.2.1 l3 1))) h (fun (h12 : zH) => b_N_reckon_377 k l2 l3 post  h12)))))))))) ∧ (¬ l1 = 12 → ((l1 = 13 → wp_N_reckonRest k l2 l3 h (fun (h14 : zH) => b_N_reckon_377 k l2 l3 post  h14)) ∧ (¬ l1 = 13 → ((l1 = 14 → b_N_reckon_371 k l2 l3 post  h) ∧ (¬ l1 = 14 → ((l1 = 15 → b_N_reckon_371 k l2 l3 post  h) ∧ (¬ l1 = 15 → ((l1 = 16 → b_N_reckon_371 k l2 l3 post  h) ∧ (¬ l1 = 16 → ((l1 = 17 → b_N_reckon_371 k l2 l3 post  h) ∧ (¬ l1 = 17 → ((l1 = 18 → b_N_reckon_371 k l2 l3 post  h) ∧ (¬ l1 = 18 → ((l1 = 19 → b_N_reckon_371 k l2 l3 post  h) ∧ (¬ l1 = 19 → ((l1 = 20 → b_N_reckon_371 k l2 l3 post  h) ∧ (¬ l1 = 20 → ((l1 = 21 → b_N_reckon_371 k l2 l3 post  h) ∧ (¬ l1 = 21 → ((l1 = 22 → b_N_reckon_371 k l2 l3 post  h) ∧ (¬ l1 = 22 → ((l1 = 23 → wp_N_put k ((if (h.2.1 l3 0) < (h.2.1 l2 0) then (h.2.1 l3 0) else (h.2.1 l2 0))) ((if (h.2.1 l3 1) < (h.2.1 l2 1) then (h.2.1 l3 1) else (h.2.1 l2 1))) h (fun (h16 : zH) => b_N_reckon_377 k l2 l3 post  h16)) ∧ (¬ l1 = 23 → ((l1 = 24 → wp_N_put k ((if (h.2.1 l3 0) < (h.2.1 l2 0) then (h.2.1 l2 0) else (h.2.1 l3 0))) ((if (h.2.1 l3 1) < (h.2.1 l2 1) then (h.2.1 l2 1) else (h.2.1 l3 1))) h (fun (h18 : zH) => b_N_reckon_377 k l2 l3 post  h18)) ∧ (¬ l1 = 24 → ((l1 = 25 → wp_N_reckonSize k l3 h (fun (h20 : zH) => b_N_reckon_377 k l2 l3 post  h20)) ∧ (¬ l1 = 25 → ((l1 = 26 → wp_N_put k ((-(h.2.1 l3 1))) ((-(h.2.1 l3 0))) h (fun (h22 : zH) => b_N_reckon_377 k l2 l3 post  h22)) ∧ (¬ l1 = 26 → b_N_reckon_371 k l2 l3 post  h))))))))))))))))))))))))))))))))))))))))
set_option maxRecDepth 100000 in
set_option maxHeartbeats 4000000 in
theorem w_N_reckon_377 {k : Nat} {l2 : Nat} {l3 : Nat} {l : Launch} {E : zE} {G : (Nat → Prop) → State → Prop} {p : Program} {e : Env} {s : State} {m : MethodId} {args : Array Value} {below : List Frame} {meth : Method} {c : Code} {A : Nat → Prop} {post : zH → Prop} (hG : xGG E G) (C : zCx p s m args meth c E G A 2 51 prog_4_method_5_code 4 cn_N) (hr : meth.sig.returnType = none) (hk_k : xRg k) (hk_l2 : xRg l2) (hk_l3 : xRg l3)  (h : zH) (hw : b_N_reckon_377 k l2 l3 post  h) : zGo p l e s m args below meth c E A 2 51 4 (zPv post) h 377 [none, none, none, none] [] := by
  unfold b_N_reckon_377 at hw
  exact z_vret C hr d_N_reckon_377 hw
set_option maxRecDepth 100000 in
set_option maxHeartbeats 4000000 in
theorem w_N_reckon_371 {k : Nat} {l2 : Nat} {l3 : Nat} {l : Launch} {E : zE} {G : (Nat → Prop) → State → Prop} {p : Program} {e : Env} {s : State} {m : MethodId} {args : Array Value} {below : List Frame} {meth : Method} {c : Code} {A : Nat → Prop} {post : zH → Prop} (hG : xGG E G) (C : zCx p s m args meth c E G A 2 51 prog_4_method_5_code 4 cn_N) (hr : meth.sig.returnType = none) (hk_k : xRg k) (hk_l2 : xRg l2) (hk_l3 : xRg l3)  (h : zH) (hw : b_N_reckon_371 k l2 l3 post  h) : zGo p l e s m args below meth c E A 2 51 4 (zPv post) h 371 [some (.ref (E.2.2.1 k)), none, none, none] [] := by
  unfold b_N_reckon_371 at hw
  refine z_aload_n C (i := 0) d_N_reckon_371 rfl rfl ?_
  refine z_lconst C (v := 0) d_N_reckon_372 (by decide) ?_
  refine z_lconst C (v := 1) d_N_reckon_373 (by decide) ?_
  refine z_callVv ⟨xN_ok, hG.1⟩ zT_good C (t_N_put hG hw) ol_N_22 (xRg_l0 hk_k) (xRg_0 hk_k) rfl (by decide) (by decide) pl_N_put rfl rfl (Nat.le_of_ble_eq_true rfl) d_N_reckon_374 (fun h2 hw => ?_)
  refine z_le (lv2 := [none, none, none, none]) (trivial) ?_
  exact w_N_reckon_377 hG C hr hk_k hk_l2 hk_l3  _ hw
set_option maxRecDepth 100000 in
set_option maxHeartbeats 4000000 in
theorem t_N_reckon {l : Launch} {E : zE} {G : (Nat → Prop) → State → Prop} (hG : xGG E G) {k : Nat} {l1 : Int32} {l2 : Nat} {l3 : Nat} {h : zH} {post : zH → Prop} (hw : wp_N_reckon k l1 l2 l3 h post) : Ct l xX E xcl xN zT G 2 51 y_N_reckon prog_4_method_5_code 4 none [.ref (E.2.2.1 k), .int l1, .ref (E.2.2.1 l2), .ref (E.2.2.1 l3)] h (zPv post) := by
  unfold wp_N_reckon at hw
  obtain ⟨hk_k, hk_l2, hk_l3, hw⟩ := hw
  refine Ct.of (by decide) (Nat.le_of_ble_eq_true rfl) ?_
  intro p e s m below meth c A C hr
  refine z_lv (lv2 := [some (.ref (E.2.2.1 k)), some (.int l1), some (.ref (E.2.2.1 l2)), some (.ref (E.2.2.1 l3))]) rfl ?_
  refine z_iload_n C (i := 1) d_N_reckon_0 rfl rfl ?_
  refine z_tcase C (off := 341) (tgt := 342) (7 : Int32) d_N_reckon_1 (by decide) (by decide) rfl (by decide) (fun q0 => ?_) (fun q0 => ?_)
  · replace hw := hw.1 q0
    refine z_aload_n C (i := 0) d_N_reckon_342 rfl rfl ?_
    refine z_aload_n C (i := 2) d_N_reckon_343 rfl rfl ?_
    refine z_getL C (ci := 7) (j := 0) (F := cf_N) (xRg_l0 hk_l2) (xRg_0 hk_l2) rfl in_N (by decide) fl_N_9 rfl d_N_reckon_344 ?_
    refine z_aload_n C (i := 3) d_N_reckon_347 rfl rfl ?_
    refine z_getL C (ci := 7) (j := 0) (F := cf_N) (xRg_l0 hk_l3) (xRg_0 hk_l3) rfl in_N (by decide) fl_N_9 rfl d_N_reckon_348 ?_
    refine z_mminL C ml_N_34 mk_Lib_MathLoose_min_long_s mk_ini mk_Lib_MathLoose_min_long_c (by decide) (Nat.le_of_ble_eq_true rfl) d_N_reckon_351 ?_
    refine z_aload_n C (i := 2) d_N_reckon_354 rfl rfl ?_
    refine z_getL C (ci := 7) (j := 1) (F := cf_N) (xRg_l0 hk_l2) (xRg_0 hk_l2) rfl in_N (by decide) fl_N_15 rfl d_N_reckon_355 ?_
    refine z_aload_n C (i := 3) d_N_reckon_358 rfl rfl ?_
    refine z_getL C (ci := 7) (j := 1) (F := cf_N) (xRg_l0 hk_l3) (xRg_0 hk_l3) rfl in_N (by decide) fl_N_15 rfl d_N_reckon_359 ?_
    refine z_mmaxL C ml_N_40 mk_Lib_MathLoose_max_long_s mk_ini mk_Lib_MathLoose_max_long_c (by decide) (Nat.le_of_ble_eq_true rfl) d_N_reckon_362 ?_
    refine z_callVv ⟨xN_ok, hG.1⟩ zT_good C (t_N_put hG hw) ol_N_22 (xRg_l0 hk_k) (xRg_0 hk_k) rfl (by decide) (by decide) pl_N_put rfl rfl (Nat.le_of_ble_eq_true rfl) d_N_reckon_365 (fun h4 hw => ?_)
    refine z_goto C (tgt := 377) d_N_reckon_368 (by decide) ?_
    refine z_le (lv2 := [none, none, none, none]) (trivial) ?_
    exact w_N_reckon_377 hG C hr hk_k hk_l2 hk_l3  _ hw
  replace hw := hw.2 q0
  refine z_tcase C (off := 370) (tgt := 371) (8 : Int32) d_N_reckon_1 (by decide) (by decide) rfl (by decide) (fun q1 => ?_) (fun q1 => ?_)
  · replace hw := hw.1 q1
    refine z_le (lv2 := [some (.ref (E.2.2.1 k)), none, none, none]) (⟨rfl, trivial⟩) ?_
    exact w_N_reckon_371 hG C hr hk_k hk_l2 hk_l3  _ hw
  replace hw := hw.2 q1
  refine z_tcase C (off := 112) (tgt := 113) (9 : Int32) d_N_reckon_1 (by decide) (by decide) rfl (by decide) (fun q2 => ?_) (fun q2 => ?_)
  · replace hw := hw.1 q2
    refine z_aload_n C (i := 0) d_N_reckon_113 rfl rfl ?_
    refine z_aload_n C (i := 2) d_N_reckon_114 rfl rfl ?_
    refine z_getL C (ci := 7) (j := 0) (F := cf_N) (xRg_l0 hk_l2) (xRg_0 hk_l2) rfl in_N (by decide) fl_N_9 rfl d_N_reckon_115 ?_
    refine z_aload_n C (i := 3) d_N_reckon_118 rfl rfl ?_
    refine z_getL C (ci := 7) (j := 0) (F := cf_N) (xRg_l0 hk_l3) (xRg_0 hk_l3) rfl in_N (by decide) fl_N_9 rfl d_N_reckon_119 ?_
    refine z_ladd C d_N_reckon_122 ?_
    refine z_aload_n C (i := 2) d_N_reckon_123 rfl rfl ?_
    refine z_getL C (ci := 7) (j := 1) (F := cf_N) (xRg_l0 hk_l2) (xRg_0 hk_l2) rfl in_N (by decide) fl_N_15 rfl d_N_reckon_124 ?_
    refine z_aload_n C (i := 3) d_N_reckon_127 rfl rfl ?_
    refine z_getL C (ci := 7) (j := 1) (F := cf_N) (xRg_l0 hk_l3) (xRg_0 hk_l3) rfl in_N (by decide) fl_N_15 rfl d_N_reckon_128 ?_
    refine z_ladd C d_N_reckon_131 ?_
    refine z_callVv ⟨xN_ok, hG.1⟩ zT_good C (t_N_put hG hw) ol_N_22 (xRg_l0 hk_k) (xRg_0 hk_k) rfl (by decide) (by decide) pl_N_put rfl rfl (Nat.le_of_ble_eq_true rfl) d_N_reckon_132 (fun h6 hw => ?_)
    refine z_goto C (tgt := 377) d_N_reckon_135 (by decide) ?_
    refine z_le (lv2 := [none, none, none, none]) (trivial) ?_
    exact w_N_reckon_377 hG C hr hk_k hk_l2 hk_l3  _ hw
  replace hw := hw.2 q2
  refine z_tcase C (off := 137) (tgt := 138) (10 : Int32) d_N_reckon_1 (by decide) (by decide) rfl (by decide) (fun q3 => ?_) (fun q3 => ?_)
  · replace hw := hw.1 q3
    refine z_aload_n C (i := 0) d_N_reckon_138 rfl rfl ?_
    refine z_aload_n C (i := 2) d_N_reckon_139 rfl rfl ?_
    refine z_getL C (ci := 7) (j := 0) (F := cf_N) (xRg_l0 hk_l2) (xRg_0 hk_l2) rfl in_N (by decide) fl_N_9 rfl d_N_reckon_140 ?_
    refine z_aload_n C (i := 3) d_N_reckon_143 rfl rfl ?_
    refine z_getL C (ci := 7) (j := 1) (F := cf_N) (xRg_l0 hk_l3) (xRg_0 hk_l3) rfl in_N (by decide) fl_N_15 rfl d_N_reckon_144 ?_
    refine z_lsub C d_N_reckon_147 ?_
    refine z_aload_n C (i := 2) d_N_reckon_148 rfl rfl ?_
    refine z_getL C (ci := 7) (j := 1) (F := cf_N) (xRg_l0 hk_l2) (xRg_0 hk_l2) rfl in_N (by decide) fl_N_15 rfl d_N_reckon_149 ?_
    refine z_aload_n C (i := 3) d_N_reckon_152 rfl rfl ?_
    refine z_getL C (ci := 7) (j := 0) (F := cf_N) (xRg_l0 hk_l3) (xRg_0 hk_l3) rfl in_N (by decide) fl_N_9 rfl d_N_reckon_153 ?_
    refine z_lsub C d_N_reckon_156 ?_
    refine z_callVv ⟨xN_ok, hG.1⟩ zT_good C (t_N_put hG hw) ol_N_22 (xRg_l0 hk_k) (xRg_0 hk_k) rfl (by decide) (by decide) pl_N_put rfl rfl (Nat.le_of_ble_eq_true rfl) d_N_reckon_157 (fun h8 hw => ?_)
    refine z_goto C (tgt := 377) d_N_reckon_160 (by decide) ?_
    refine z_le (lv2 := [none, none, none, none]) (trivial) ?_
    exact w_N_reckon_377 hG C hr hk_k hk_l2 hk_l3  _ hw
  replace hw := hw.2 q3
  refine z_tcase C (off := 162) (tgt := 163) (11 : Int32) d_N_reckon_1 (by decide) (by decide) rfl (by decide) (fun q4 => ?_) (fun q4 => ?_)
  · replace hw := hw.1 q4
    refine z_aload_n C (i := 0) d_N_reckon_163 rfl rfl ?_
    refine z_aload_n C (i := 2) d_N_reckon_164 rfl rfl ?_
    refine z_getL C (ci := 7) (j := 0) (F := cf_N) (xRg_l0 hk_l2) (xRg_0 hk_l2) rfl in_N (by decide) fl_N_9 rfl d_N_reckon_165 ?_
    refine z_aload_n C (i := 3) d_N_reckon_168 rfl rfl ?_
    refine z_getL C (ci := 7) (j := 0) (F := cf_N) (xRg_l0 hk_l3) (xRg_0 hk_l3) rfl in_N (by decide) fl_N_9 rfl d_N_reckon_169 ?_
    refine z_lmul C d_N_reckon_172 ?_
    refine z_aload_n C (i := 2) d_N_reckon_173 rfl rfl ?_
    refine z_getL C (ci := 7) (j := 0) (F := cf_N) (xRg_l0 hk_l2) (xRg_0 hk_l2) rfl in_N (by decide) fl_N_9 rfl d_N_reckon_174 ?_
    refine z_aload_n C (i := 3) d_N_reckon_177 rfl rfl ?_
    refine z_getL C (ci := 7) (j := 1) (F := cf_N) (xRg_l0 hk_l3) (xRg_0 hk_l3) rfl in_N (by decide) fl_N_15 rfl d_N_reckon_178 ?_
    refine z_lmul C d_N_reckon_181 ?_
    refine z_aload_n C (i := 2) d_N_reckon_182 rfl rfl ?_
    refine z_getL C (ci := 7) (j := 1) (F := cf_N) (xRg_l0 hk_l2) (xRg_0 hk_l2) rfl in_N (by decide) fl_N_15 rfl d_N_reckon_183 ?_
    refine z_aload_n C (i := 3) d_N_reckon_186 rfl rfl ?_
    refine z_getL C (ci := 7) (j := 0) (F := cf_N) (xRg_l0 hk_l3) (xRg_0 hk_l3) rfl in_N (by decide) fl_N_9 rfl d_N_reckon_187 ?_
    refine z_lmul C d_N_reckon_190 ?_
    refine z_aload_n C (i := 2) d_N_reckon_191 rfl rfl ?_
    refine z_getL C (ci := 7) (j := 1) (F := cf_N) (xRg_l0 hk_l2) (xRg_0 hk_l2) rfl in_N (by decide) fl_N_15 rfl d_N_reckon_192 ?_
    refine z_aload_n C (i := 3) d_N_reckon_195 rfl rfl ?_
    refine z_getL C (ci := 7) (j := 1) (F := cf_N) (xRg_l0 hk_l3) (xRg_0 hk_l3) rfl in_N (by decide) fl_N_15 rfl d_N_reckon_196 ?_
    refine z_lmul C d_N_reckon_199 ?_
    refine z_callVv ⟨xN_ok, hG.1⟩ zT_good C (t_N_cover hG hw) ol_N_26 (xRg_l0 hk_k) (xRg_0 hk_k) rfl (by decide) (by decide) pl_N_cover rfl rfl (Nat.le_of_ble_eq_true rfl) d_N_reckon_200 (fun h10 hw => ?_)
    refine z_goto C (tgt := 377) d_N_reckon_203 (by decide) ?_
    refine z_le (lv2 := [none, none, none, none]) (trivial) ?_
    exact w_N_reckon_377 hG C hr hk_k hk_l2 hk_l3  _ hw
  replace hw := hw.2 q4
  refine z_tcase C (off := 205) (tgt := 206) (12 : Int32) d_N_reckon_1 (by decide) (by decide) rfl (by decide) (fun q5 => ?_) (fun q5 => ?_)
  · replace hw := hw.1 q5
    refine z_aload_n C (i := 3) d_N_reckon_206 rfl rfl ?_
    refine z_getL C (ci := 7) (j := 0) (F := cf_N) (xRg_l0 hk_l3) (xRg_0 hk_l3) rfl in_N (by decide) fl_N_9 rfl d_N_reckon_207 ?_
    refine z_lconst C (v := 0) d_N_reckon_210 (by decide) ?_
    refine z_lcmp C d_N_reckon_211 ?_
    refine z_if_eq C (tgt := 377) d_N_reckon_212 (by decide) (fun q => ?_) (fun q => ?_)
    · replace hw := hw.1 q
      refine z_le (lv2 := [none, none, none, none]) (trivial) ?_
      exact w_N_reckon_377 hG C hr hk_k hk_l2 hk_l3  _ hw
    · replace hw := hw.2 q
      refine z_aload_n C (i := 3) d_N_reckon_215 rfl rfl ?_
      refine z_getL C (ci := 7) (j := 1) (F := cf_N) (xRg_l0 hk_l3) (xRg_0 hk_l3) rfl in_N (by decide) fl_N_15 rfl d_N_reckon_216 ?_
      refine z_lconst C (v := 0) d_N_reckon_219 (by decide) ?_
      refine z_lcmp C d_N_reckon_220 ?_
      refine z_if_eq C (tgt := 377) d_N_reckon_221 (by decide) (fun q => ?_) (fun q => ?_)
      · replace hw := hw.1 q
        refine z_le (lv2 := [none, none, none, none]) (trivial) ?_
        exact w_N_reckon_377 hG C hr hk_k hk_l2 hk_l3  _ hw
      · replace hw := hw.2 q
        refine z_aload_n C (i := 0) d_N_reckon_224 rfl rfl ?_
        refine z_aload_n C (i := 2) d_N_reckon_225 rfl rfl ?_
        refine z_getL C (ci := 7) (j := 0) (F := cf_N) (xRg_l0 hk_l2) (xRg_0 hk_l2) rfl in_N (by decide) fl_N_9 rfl d_N_reckon_226 ?_
        refine z_aload_n C (i := 3) d_N_reckon_229 rfl rfl ?_
        refine z_getL C (ci := 7) (j := 0) (F := cf_N) (xRg_l0 hk_l3) (xRg_0 hk_l3) rfl in_N (by decide) fl_N_9 rfl d_N_reckon_230 ?_
        refine z_ldiv C d_N_reckon_233 hw.1 ?_
        replace hw := hw.2
        refine z_aload_n C (i := 2) d_N_reckon_234 rfl rfl ?_
        refine z_getL C (ci := 7) (j := 0) (F := cf_N) (xRg_l0 hk_l2) (xRg_0 hk_l2) rfl in_N (by decide) fl_N_9 rfl d_N_reckon_235 ?_
        refine z_aload_n C (i := 3) d_N_reckon_238 rfl rfl ?_
        refine z_getL C (ci := 7) (j := 1) (F := cf_N) (xRg_l0 hk_l3) (xRg_0 hk_l3) rfl in_N (by decide) fl_N_15 rfl d_N_reckon_239 ?_
        refine z_ldiv C d_N_reckon_242 hw.1 ?_
        replace hw := hw.2
        refine z_aload_n C (i := 2) d_N_reckon_243 rfl rfl ?_
        refine z_getL C (ci := 7) (j := 1) (F := cf_N) (xRg_l0 hk_l2) (xRg_0 hk_l2) rfl in_N (by decide) fl_N_15 rfl d_N_reckon_244 ?_
        refine z_aload_n C (i := 3) d_N_reckon_247 rfl rfl ?_
        refine z_getL C (ci := 7) (j := 0) (F := cf_N) (xRg_l0 hk_l3) (xRg_0 hk_l3) rfl in_N (by decide) fl_N_9 rfl d_N_reckon_248 ?_
        refine z_ldiv C d_N_reckon_251 hw.1 ?_
        replace hw := hw.2
        refine z_aload_n C (i := 2) d_N_reckon_252 rfl rfl ?_
        refine z_getL C (ci := 7) (j := 1) (F := cf_N) (xRg_l0 hk_l2) (xRg_0 hk_l2) rfl in_N (by decide) fl_N_15 rfl d_N_reckon_253 ?_
        refine z_aload_n C (i := 3) d_N_reckon_256 rfl rfl ?_
        refine z_getL C (ci := 7) (j := 1) (F := cf_N) (xRg_l0 hk_l3) (xRg_0 hk_l3) rfl in_N (by decide) fl_N_15 rfl d_N_reckon_257 ?_
        refine z_ldiv C d_N_reckon_260 hw.1 ?_
        replace hw := hw.2
        refine z_callVv ⟨xN_ok, hG.1⟩ zT_good C (t_N_cover hG hw) ol_N_26 (xRg_l0 hk_k) (xRg_0 hk_k) rfl (by decide) (by decide) pl_N_cover rfl rfl (Nat.le_of_ble_eq_true rfl) d_N_reckon_261 (fun h12 hw => ?_)
        refine z_goto C (tgt := 377) d_N_reckon_264 (by decide) ?_
        refine z_le (lv2 := [none, none, none, none]) (trivial) ?_
        exact w_N_reckon_377 hG C hr hk_k hk_l2 hk_l3  _ hw
  replace hw := hw.2 q5
  refine z_tcase C (off := 266) (tgt := 267) (13 : Int32) d_N_reckon_1 (by decide) (by decide) rfl (by decide) (fun q6 => ?_) (fun q6 => ?_)
  · replace hw := hw.1 q6
    refine z_aload_n C (i := 0) d_N_reckon_267 rfl rfl ?_
    refine z_aload_n C (i := 2) d_N_reckon_268 rfl rfl ?_
    refine z_aload_n C (i := 3) d_N_reckon_269 rfl rfl ?_
    refine z_callVv ⟨xN_ok, hG.1⟩ zT_good C (t_N_reckonRest hG hw) ol_N_30 (xRg_l0 hk_k) (xRg_0 hk_k) rfl (by decide) (by decide) pl_N_reckonRest rfl rfl (Nat.le_of_ble_eq_true rfl) d_N_reckon_270 (fun h14 hw => ?_)
    refine z_goto C (tgt := 377) d_N_reckon_273 (by decide) ?_
    refine z_le (lv2 := [none, none, none, none]) (trivial) ?_
    exact w_N_reckon_377 hG C hr hk_k hk_l2 hk_l3  _ hw
  replace hw := hw.2 q6
  refine z_tcase C (off := 370) (tgt := 371) (14 : Int32) d_N_reckon_1 (by decide) (by decide) rfl (by decide) (fun q7 => ?_) (fun q7 => ?_)
  · replace hw := hw.1 q7
    refine z_le (lv2 := [some (.ref (E.2.2.1 k)), none, none, none]) (⟨rfl, trivial⟩) ?_
    exact w_N_reckon_371 hG C hr hk_k hk_l2 hk_l3  _ hw
  replace hw := hw.2 q7
  refine z_tcase C (off := 370) (tgt := 371) (15 : Int32) d_N_reckon_1 (by decide) (by decide) rfl (by decide) (fun q8 => ?_) (fun q8 => ?_)
  · replace hw := hw.1 q8
    refine z_le (lv2 := [some (.ref (E.2.2.1 k)), none, none, none]) (⟨rfl, trivial⟩) ?_
    exact w_N_reckon_371 hG C hr hk_k hk_l2 hk_l3  _ hw
  replace hw := hw.2 q8
  refine z_tcase C (off := 370) (tgt := 371) (16 : Int32) d_N_reckon_1 (by decide) (by decide) rfl (by decide) (fun q9 => ?_) (fun q9 => ?_)
  · replace hw := hw.1 q9
    refine z_le (lv2 := [some (.ref (E.2.2.1 k)), none, none, none]) (⟨rfl, trivial⟩) ?_
    exact w_N_reckon_371 hG C hr hk_k hk_l2 hk_l3  _ hw
  replace hw := hw.2 q9
  refine z_tcase C (off := 370) (tgt := 371) (17 : Int32) d_N_reckon_1 (by decide) (by decide) rfl (by decide) (fun q10 => ?_) (fun q10 => ?_)
  · replace hw := hw.1 q10
    refine z_le (lv2 := [some (.ref (E.2.2.1 k)), none, none, none]) (⟨rfl, trivial⟩) ?_
    exact w_N_reckon_371 hG C hr hk_k hk_l2 hk_l3  _ hw
  replace hw := hw.2 q10
  refine z_tcase C (off := 370) (tgt := 371) (18 : Int32) d_N_reckon_1 (by decide) (by decide) rfl (by decide) (fun q11 => ?_) (fun q11 => ?_)
  · replace hw := hw.1 q11
    refine z_le (lv2 := [some (.ref (E.2.2.1 k)), none, none, none]) (⟨rfl, trivial⟩) ?_
    exact w_N_reckon_371 hG C hr hk_k hk_l2 hk_l3  _ hw
  replace hw := hw.2 q11
  refine z_tcase C (off := 370) (tgt := 371) (19 : Int32) d_N_reckon_1 (by decide) (by decide) rfl (by decide) (fun q12 => ?_) (fun q12 => ?_)
  · replace hw := hw.1 q12
    refine z_le (lv2 := [some (.ref (E.2.2.1 k)), none, none, none]) (⟨rfl, trivial⟩) ?_
    exact w_N_reckon_371 hG C hr hk_k hk_l2 hk_l3  _ hw
  replace hw := hw.2 q12
  refine z_tcase C (off := 370) (tgt := 371) (20 : Int32) d_N_reckon_1 (by decide) (by decide) rfl (by decide) (fun q13 => ?_) (fun q13 => ?_)
  · replace hw := hw.1 q13
    refine z_le (lv2 := [some (.ref (E.2.2.1 k)), none, none, none]) (⟨rfl, trivial⟩) ?_
    exact w_N_reckon_371 hG C hr hk_k hk_l2 hk_l3  _ hw
  replace hw := hw.2 q13
  refine z_tcase C (off := 370) (tgt := 371) (21 : Int32) d_N_reckon_1 (by decide) (by decide) rfl (by decide) (fun q14 => ?_) (fun q14 => ?_)
  · replace hw := hw.1 q14
    refine z_le (lv2 := [some (.ref (E.2.2.1 k)), none, none, none]) (⟨rfl, trivial⟩) ?_
    exact w_N_reckon_371 hG C hr hk_k hk_l2 hk_l3  _ hw
  replace hw := hw.2 q14
  refine z_tcase C (off := 370) (tgt := 371) (22 : Int32) d_N_reckon_1 (by decide) (by decide) rfl (by decide) (fun q15 => ?_) (fun q15 => ?_)
  · replace hw := hw.1 q15
    refine z_le (lv2 := [some (.ref (E.2.2.1 k)), none, none, none]) (⟨rfl, trivial⟩) ?_
    exact w_N_reckon_371 hG C hr hk_k hk_l2 hk_l3  _ hw
  replace hw := hw.2 q15
  refine z_tcase C (off := 275) (tgt := 276) (23 : Int32) d_N_reckon_1 (by decide) (by decide) rfl (by decide) (fun q16 => ?_) (fun q16 => ?_)
  · replace hw := hw.1 q16
    refine z_aload_n C (i := 0) d_N_reckon_276 rfl rfl ?_
    refine z_aload_n C (i := 2) d_N_reckon_277 rfl rfl ?_
    refine z_getL C (ci := 7) (j := 0) (F := cf_N) (xRg_l0 hk_l2) (xRg_0 hk_l2) rfl in_N (by decide) fl_N_9 rfl d_N_reckon_278 ?_
    refine z_aload_n C (i := 3) d_N_reckon_281 rfl rfl ?_
    refine z_getL C (ci := 7) (j := 0) (F := cf_N) (xRg_l0 hk_l3) (xRg_0 hk_l3) rfl in_N (by decide) fl_N_9 rfl d_N_reckon_282 ?_
    refine z_mminL C ml_N_34 mk_Lib_MathLoose_min_long_s mk_ini mk_Lib_MathLoose_min_long_c (by decide) (Nat.le_of_ble_eq_true rfl) d_N_reckon_285 ?_
    refine z_aload_n C (i := 2) d_N_reckon_288 rfl rfl ?_
    refine z_getL C (ci := 7) (j := 1) (F := cf_N) (xRg_l0 hk_l2) (xRg_0 hk_l2) rfl in_N (by decide) fl_N_15 rfl d_N_reckon_289 ?_
    refine z_aload_n C (i := 3) d_N_reckon_292 rfl rfl ?_
    refine z_getL C (ci := 7) (j := 1) (F := cf_N) (xRg_l0 hk_l3) (xRg_0 hk_l3) rfl in_N (by decide) fl_N_15 rfl d_N_reckon_293 ?_
    refine z_mminL C ml_N_34 mk_Lib_MathLoose_min_long_s mk_ini mk_Lib_MathLoose_min_long_c (by decide) (Nat.le_of_ble_eq_true rfl) d_N_reckon_296 ?_
    refine z_callVv ⟨xN_ok, hG.1⟩ zT_good C (t_N_put hG hw) ol_N_22 (xRg_l0 hk_k) (xRg_0 hk_k) rfl (by decide) (by decide) pl_N_put rfl rfl (Nat.le_of_ble_eq_true rfl) d_N_reckon_299 (fun h16 hw => ?_)
    refine z_goto C (tgt := 377) d_N_reckon_302 (by decide) ?_
    refine z_le (lv2 := [none, none, none, none]) (trivial) ?_
    exact w_N_reckon_377 hG C hr hk_k hk_l2 hk_l3  _ hw
  replace hw := hw.2 q16
  refine z_tcase C (off := 304) (tgt := 305) (24 : Int32) d_N_reckon_1 (by decide) (by decide) rfl (by decide) (fun q17 => ?_) (fun q17 => ?_)
  · replace hw := hw.1 q17
    refine z_aload_n C (i := 0) d_N_reckon_305 rfl rfl ?_
    refine z_aload_n C (i := 2) d_N_reckon_306 rfl rfl ?_
    refine z_getL C (ci := 7) (j := 0) (F := cf_N) (xRg_l0 hk_l2) (xRg_0 hk_l2) rfl in_N (by decide) fl_N_9 rfl d_N_reckon_307 ?_
    refine z_aload_n C (i := 3) d_N_reckon_310 rfl rfl ?_
    refine z_getL C (ci := 7) (j := 0) (F := cf_N) (xRg_l0 hk_l3) (xRg_0 hk_l3) rfl in_N (by decide) fl_N_9 rfl d_N_reckon_311 ?_
    refine z_mmaxL C ml_N_40 mk_Lib_MathLoose_max_long_s mk_ini mk_Lib_MathLoose_max_long_c (by decide) (Nat.le_of_ble_eq_true rfl) d_N_reckon_314 ?_
    refine z_aload_n C (i := 2) d_N_reckon_317 rfl rfl ?_
    refine z_getL C (ci := 7) (j := 1) (F := cf_N) (xRg_l0 hk_l2) (xRg_0 hk_l2) rfl in_N (by decide) fl_N_15 rfl d_N_reckon_318 ?_
    refine z_aload_n C (i := 3) d_N_reckon_321 rfl rfl ?_
    refine z_getL C (ci := 7) (j := 1) (F := cf_N) (xRg_l0 hk_l3) (xRg_0 hk_l3) rfl in_N (by decide) fl_N_15 rfl d_N_reckon_322 ?_
    refine z_mmaxL C ml_N_40 mk_Lib_MathLoose_max_long_s mk_ini mk_Lib_MathLoose_max_long_c (by decide) (Nat.le_of_ble_eq_true rfl) d_N_reckon_325 ?_
    refine z_callVv ⟨xN_ok, hG.1⟩ zT_good C (t_N_put hG hw) ol_N_22 (xRg_l0 hk_k) (xRg_0 hk_k) rfl (by decide) (by decide) pl_N_put rfl rfl (Nat.le_of_ble_eq_true rfl) d_N_reckon_328 (fun h18 hw => ?_)
    refine z_goto C (tgt := 377) d_N_reckon_331 (by decide) ?_
    refine z_le (lv2 := [none, none, none, none]) (trivial) ?_
    exact w_N_reckon_377 hG C hr hk_k hk_l2 hk_l3  _ hw
  replace hw := hw.2 q17
  refine z_tcase C (off := 333) (tgt := 334) (25 : Int32) d_N_reckon_1 (by decide) (by decide) rfl (by decide) (fun q18 => ?_) (fun q18 => ?_)
  · replace hw := hw.1 q18
    refine z_aload_n C (i := 0) d_N_reckon_334 rfl rfl ?_
    refine z_aload_n C (i := 3) d_N_reckon_335 rfl rfl ?_
    refine z_callVv ⟨xN_ok, hG.1⟩ zT_good C (t_N_reckonSize hG hw) ol_N_43 (xRg_l0 hk_k) (xRg_0 hk_k) rfl (by decide) (by decide) pl_N_reckonSize rfl rfl (Nat.le_of_ble_eq_true rfl) d_N_reckon_336 (fun h20 hw => ?_)
    refine z_goto C (tgt := 377) d_N_reckon_339 (by decide) ?_
    refine z_le (lv2 := [none, none, none, none]) (trivial) ?_
    exact w_N_reckon_377 hG C hr hk_k hk_l2 hk_l3  _ hw
  replace hw := hw.2 q18
  refine z_tcase C (off := 95) (tgt := 96) (26 : Int32) d_N_reckon_1 (by decide) (by decide) rfl (by decide) (fun q19 => ?_) (fun q19 => ?_)
  · replace hw := hw.1 q19
    refine z_aload_n C (i := 0) d_N_reckon_96 rfl rfl ?_
    refine z_aload_n C (i := 3) d_N_reckon_97 rfl rfl ?_
    refine z_getL C (ci := 7) (j := 1) (F := cf_N) (xRg_l0 hk_l3) (xRg_0 hk_l3) rfl in_N (by decide) fl_N_15 rfl d_N_reckon_98 ?_
    refine z_lneg C d_N_reckon_101 ?_
    refine z_aload_n C (i := 3) d_N_reckon_102 rfl rfl ?_
    refine z_getL C (ci := 7) (j := 0) (F := cf_N) (xRg_l0 hk_l3) (xRg_0 hk_l3) rfl in_N (by decide) fl_N_9 rfl d_N_reckon_103 ?_
    refine z_lneg C d_N_reckon_106 ?_
    refine z_callVv ⟨xN_ok, hG.1⟩ zT_good C (t_N_put hG hw) ol_N_22 (xRg_l0 hk_k) (xRg_0 hk_k) rfl (by decide) (by decide) pl_N_put rfl rfl (Nat.le_of_ble_eq_true rfl) d_N_reckon_107 (fun h22 hw => ?_)
    refine z_goto C (tgt := 377) d_N_reckon_110 (by decide) ?_
    refine z_le (lv2 := [none, none, none, none]) (trivial) ?_
    exact w_N_reckon_377 hG C hr hk_k hk_l2 hk_l3  _ hw
  replace hw := hw.2 q19
  refine z_tabOut C (tgt := 371) d_N_reckon_1 (by have e0 := lv_neT q0 (a := 7) rfl; have e1 := lv_neT q1 (a := 8) rfl; have e2 := lv_neT q2 (a := 9) rfl; have e3 := lv_neT q3 (a := 10) rfl; have e4 := lv_neT q4 (a := 11) rfl; have e5 := lv_neT q5 (a := 12) rfl; have e6 := lv_neT q6 (a := 13) rfl; have e7 := lv_neT q7 (a := 14) rfl; have e8 := lv_neT q8 (a := 15) rfl; have e9 := lv_neT q9 (a := 16) rfl; have e10 := lv_neT q10 (a := 17) rfl; have e11 := lv_neT q11 (a := 18) rfl; have e12 := lv_neT q12 (a := 19) rfl; have e13 := lv_neT q13 (a := 20) rfl; have e14 := lv_neT q14 (a := 21) rfl; have e15 := lv_neT q15 (a := 22) rfl; have e16 := lv_neT q16 (a := 23) rfl; have e17 := lv_neT q17 (a := 24) rfl; have e18 := lv_neT q18 (a := 25) rfl; have e19 := lv_neT q19 (a := 26) rfl; omega) (by decide) ?_
  refine z_le (lv2 := [some (.ref (E.2.2.1 k)), none, none, none]) (⟨rfl, trivial⟩) ?_
  exact w_N_reckon_371 hG C hr hk_k hk_l2 hk_l3  _ hw
theorem d_P_blame_0 : decode prog_2_method_4_code 0 = .ok (.aload_n 0, 1) := by decide +kernel
theorem d_P_blame_1 : decode prog_2_method_4_code 1 = .ok (.iload_n 1, 1) := by decide +kernel
theorem d_P_blame_2 : decode prog_2_method_4_code 2 = .ok (.bipush (8), 2) := by decide +kernel
theorem d_P_blame_4 : decode prog_2_method_4_code 4 = .ok (.iload_n 2, 1) := by decide +kernel
theorem d_P_blame_5 : decode prog_2_method_4_code 5 = .ok (.imul, 1) := by decide +kernel
theorem d_P_blame_6 : decode prog_2_method_4_code 6 = .ok (.iadd, 1) := by decide +kernel
theorem d_P_blame_7 : decode prog_2_method_4_code 7 = .ok (.putfield 42, 3) := by decide +kernel
theorem d_P_blame_10 : decode prog_2_method_4_code 10 = .ok (.aload_n 0, 1) := by decide +kernel
theorem d_P_blame_11 : decode prog_2_method_4_code 11 = .ok (.iconst 3, 1) := by decide +kernel
theorem d_P_blame_12 : decode prog_2_method_4_code 12 = .ok (.putfield 39, 3) := by decide +kernel
theorem d_P_blame_15 : decode prog_2_method_4_code 15 = .ok (.return_, 1) := by decide +kernel
def wp_P_blame (l1 : Int32) (l2 : Int32) (h : zH) (post : zH → Prop) : Prop := (∀ h1 : zH, h1 = zi h 29 10 (l1 + (8 * l2)) → (∀ h2 : zH, h2 = zi h1 29 9 3 → post h2))
set_option maxRecDepth 100000 in
set_option maxHeartbeats 4000000 in
theorem t_P_blame {l : Launch} {E : zE} {G : (Nat → Prop) → State → Prop} (hG : xGG E G) {l1 : Int32} {l2 : Int32} {h : zH} {post : zH → Prop} (hw : wp_P_blame l1 l2 h post) : Ct l xX E xcl xN zT G 0 0 y_P_blame prog_2_method_4_code 3 none [.ref (E.2.2.1 29), .int l1, .int l2] h (zPv post) := by
  unfold wp_P_blame at hw
  refine Ct.of (by decide) (Nat.le_of_ble_eq_true rfl) ?_
  intro p e s m below meth c A C hr
  refine z_lv (lv2 := [some (.ref (E.2.2.1 29)), some (.int l1), some (.int l2)]) rfl ?_
  refine z_aload_n C (i := 0) d_P_blame_0 rfl rfl ?_
  refine z_iload_n C (i := 1) d_P_blame_1 rfl rfl ?_
  refine z_bipush C (v := 8) d_P_blame_2 (by decide) ?_
  refine z_iload_n C (i := 2) d_P_blame_4 rfl rfl ?_
  refine z_imul C d_P_blame_5 ?_
  refine z_iadd C d_P_blame_6 ?_
  refine z_putI C (ci := 4) (j := 10) (F := cf_P) ct_P (by decide) rfl rfl in_P ty_P nm_P (by decide) fl_P_42 rfl (by decide +kernel) rfl d_P_blame_7 (fun h1 eh1 => ?_)
  replace hw := hw h1 eh1
  refine z_aload_n C (i := 0) d_P_blame_10 rfl rfl ?_
  refine z_iconst C (v := 3) d_P_blame_11 (by decide) ?_
  refine z_putI C (ci := 4) (j := 9) (F := cf_P) ct_P (by decide) rfl rfl in_P ty_P nm_P (by decide) fl_P_39 rfl (by decide +kernel) rfl d_P_blame_12 (fun h2 eh2 => ?_)
  replace hw := hw h2 eh2
  exact z_vret C hr d_P_blame_15 hw
theorem d_T_isFull_0 : decode prog_6_method_4_code 0 = .ok (.aload_n 0, 1) := by decide +kernel
theorem d_T_isFull_1 : decode prog_6_method_4_code 1 = .ok (.getfield 43, 3) := by decide +kernel
theorem d_T_isFull_4 : decode prog_6_method_4_code 4 = .ok (.bipush (100), 2) := by decide +kernel
theorem d_T_isFull_6 : decode prog_6_method_4_code 6 = .ok (.if_icmp .lt (7), 3) := by decide +kernel
theorem d_T_isFull_9 : decode prog_6_method_4_code 9 = .ok (.iconst 1, 1) := by decide +kernel
theorem d_T_isFull_10 : decode prog_6_method_4_code 10 = .ok (.goto (4), 3) := by decide +kernel
theorem d_T_isFull_13 : decode prog_6_method_4_code 13 = .ok (.iconst 0, 1) := by decide +kernel
theorem d_T_isFull_14 : decode prog_6_method_4_code 14 = .ok (.ireturn, 1) := by decide +kernel
def b_T_isFull_14 (k : Nat) (post : Int32 → zH → Prop) (s0 : Int32) (h : zH) : Prop := (narrow .boolean (.int s0) = .int s0 ∧ post s0 h)
def wp_T_isFull (k : Nat) (h : zH) (post : Int32 → zH → Prop) : Prop := xTm k ∧ (((h.1 k 10) < 100 → b_T_isFull_14 k post (0) h) ∧ (¬ (h.1 k 10) < 100 → b_T_isFull_14 k post (1) h))
set_option maxRecDepth 100000 in
set_option maxHeartbeats 4000000 in
theorem w_T_isFull_14 {k : Nat} {l : Launch} {E : zE} {G : (Nat → Prop) → State → Prop} {p : Program} {e : Env} {s : State} {m : MethodId} {args : Array Value} {below : List Frame} {meth : Method} {c : Code} {A : Nat → Prop} {post : Int32 → zH → Prop} (hG : xGG E G) (C : zCx p s m args meth c E G A 0 0 prog_6_method_4_code 1 cn_T) (hr : meth.sig.returnType = (some .boolean)) (hk_k : xTm k)  (s0 : Int32) (h : zH) (hw : b_T_isFull_14 k post s0 h) : zGo p l e s m args below meth c E A 0 0 1 (zPi post) h 14 [none] [.int s0] := by
  unfold b_T_isFull_14 at hw
  exact z_zret C hr hw.1 d_T_isFull_14 hw.2
set_option maxRecDepth 100000 in
set_option maxHeartbeats 4000000 in
theorem t_T_isFull {l : Launch} {E : zE} {G : (Nat → Prop) → State → Prop} (hG : xGG E G) {k : Nat} {h : zH} {post : Int32 → zH → Prop} (hw : wp_T_isFull k h post) : Ct l xX E xcl xN zT G 0 0 y_T_isFull prog_6_method_4_code 1 (some .boolean) [.ref (E.2.2.1 k)] h (zPi post) := by
  unfold wp_T_isFull at hw
  obtain ⟨hk_k, hw⟩ := hw
  refine Ct.of (by decide) (Nat.le_of_ble_eq_true rfl) ?_
  intro p e s m below meth c A C hr
  refine z_lv (lv2 := [some (.ref (E.2.2.1 k))]) rfl ?_
  refine z_aload_n C (i := 0) d_T_isFull_0 rfl rfl ?_
  refine z_getI C (ci := 3) (j := 10) (F := cf_T) (xTm_l0 hk_k) (xTm_0 hk_k) rfl in_T (by decide) fl_T_43 rfl d_T_isFull_1 ?_
  refine z_bipush C (v := 100) d_T_isFull_4 (by decide) ?_
  refine z_icmp_lt C (tgt := 13) d_T_isFull_6 (by decide) (fun q => ?_) (fun q => ?_)
  · replace hw := hw.1 q
    refine z_iconst C (v := 0) d_T_isFull_13 (by decide) ?_
    refine z_le (lv2 := [none]) (trivial) ?_
    exact w_T_isFull_14 hG C hr hk_k _ _ hw
  · replace hw := hw.2 q
    refine z_iconst C (v := 1) d_T_isFull_9 (by decide) ?_
    refine z_goto C (tgt := 14) d_T_isFull_10 (by decide) ?_
    refine z_le (lv2 := [none]) (trivial) ?_
    exact w_T_isFull_14 hG C hr hk_k _ _ hw
theorem d_T_add_0 : decode prog_6_method_10_code 0 = .ok (.aload_n 0, 1) := by decide +kernel
theorem d_T_add_1 : decode prog_6_method_10_code 1 = .ok (.invokevirtual 55, 3) := by decide +kernel
theorem d_T_add_4 : decode prog_6_method_10_code 4 = .ok (.ifCond .eq (4), 3) := by decide +kernel
theorem d_T_add_7 : decode prog_6_method_10_code 7 = .ok (.return_, 1) := by decide +kernel
theorem d_T_add_8 : decode prog_6_method_10_code 8 = .ok (.aload_n 0, 1) := by decide +kernel
theorem d_T_add_9 : decode prog_6_method_10_code 9 = .ok (.getfield 9, 3) := by decide +kernel
theorem d_T_add_12 : decode prog_6_method_10_code 12 = .ok (.aload_n 0, 1) := by decide +kernel
theorem d_T_add_13 : decode prog_6_method_10_code 13 = .ok (.getfield 43, 3) := by decide +kernel
theorem d_T_add_16 : decode prog_6_method_10_code 16 = .ok (.iload_n 1, 1) := by decide +kernel
theorem d_T_add_17 : decode prog_6_method_10_code 17 = .ok (.iastore, 1) := by decide +kernel
theorem d_T_add_18 : decode prog_6_method_10_code 18 = .ok (.aload_n 0, 1) := by decide +kernel
theorem d_T_add_19 : decode prog_6_method_10_code 19 = .ok (.getfield 15, 3) := by decide +kernel
theorem d_T_add_22 : decode prog_6_method_10_code 22 = .ok (.aload_n 0, 1) := by decide +kernel
theorem d_T_add_23 : decode prog_6_method_10_code 23 = .ok (.getfield 43, 3) := by decide +kernel
theorem d_T_add_26 : decode prog_6_method_10_code 26 = .ok (.iload_n 2, 1) := by decide +kernel
theorem d_T_add_27 : decode prog_6_method_10_code 27 = .ok (.iastore, 1) := by decide +kernel
theorem d_T_add_28 : decode prog_6_method_10_code 28 = .ok (.aload_n 0, 1) := by decide +kernel
theorem d_T_add_29 : decode prog_6_method_10_code 29 = .ok (.getfield 18, 3) := by decide +kernel
theorem d_T_add_32 : decode prog_6_method_10_code 32 = .ok (.aload_n 0, 1) := by decide +kernel
theorem d_T_add_33 : decode prog_6_method_10_code 33 = .ok (.getfield 43, 3) := by decide +kernel
theorem d_T_add_36 : decode prog_6_method_10_code 36 = .ok (.iload_n 3, 1) := by decide +kernel
theorem d_T_add_37 : decode prog_6_method_10_code 37 = .ok (.iastore, 1) := by decide +kernel
theorem d_T_add_38 : decode prog_6_method_10_code 38 = .ok (.aload_n 0, 1) := by decide +kernel
theorem d_T_add_39 : decode prog_6_method_10_code 39 = .ok (.getfield 33, 3) := by decide +kernel
theorem d_T_add_42 : decode prog_6_method_10_code 42 = .ok (.aload_n 0, 1) := by decide +kernel
theorem d_T_add_43 : decode prog_6_method_10_code 43 = .ok (.getfield 43, 3) := by decide +kernel
theorem d_T_add_46 : decode prog_6_method_10_code 46 = .ok (.iload 4, 2) := by decide +kernel
theorem d_T_add_48 : decode prog_6_method_10_code 48 = .ok (.iastore, 1) := by decide +kernel
theorem d_T_add_49 : decode prog_6_method_10_code 49 = .ok (.aload_n 0, 1) := by decide +kernel
theorem d_T_add_50 : decode prog_6_method_10_code 50 = .ok (.getfield 27, 3) := by decide +kernel
theorem d_T_add_53 : decode prog_6_method_10_code 53 = .ok (.aload_n 0, 1) := by decide +kernel
theorem d_T_add_54 : decode prog_6_method_10_code 54 = .ok (.getfield 43, 3) := by decide +kernel
theorem d_T_add_57 : decode prog_6_method_10_code 57 = .ok (.iconst (-1), 1) := by decide +kernel
theorem d_T_add_58 : decode prog_6_method_10_code 58 = .ok (.iastore, 1) := by decide +kernel
theorem d_T_add_59 : decode prog_6_method_10_code 59 = .ok (.aload_n 0, 1) := by decide +kernel
theorem d_T_add_60 : decode prog_6_method_10_code 60 = .ok (.getfield 30, 3) := by decide +kernel
theorem d_T_add_63 : decode prog_6_method_10_code 63 = .ok (.aload_n 0, 1) := by decide +kernel
theorem d_T_add_64 : decode prog_6_method_10_code 64 = .ok (.getfield 43, 3) := by decide +kernel
theorem d_T_add_67 : decode prog_6_method_10_code 67 = .ok (.iconst (-1), 1) := by decide +kernel
theorem d_T_add_68 : decode prog_6_method_10_code 68 = .ok (.iastore, 1) := by decide +kernel
theorem d_T_add_69 : decode prog_6_method_10_code 69 = .ok (.aload_n 0, 1) := by decide +kernel
theorem d_T_add_70 : decode prog_6_method_10_code 70 = .ok (.getfield 36, 3) := by decide +kernel
theorem d_T_add_73 : decode prog_6_method_10_code 73 = .ok (.aload_n 0, 1) := by decide +kernel
theorem d_T_add_74 : decode prog_6_method_10_code 74 = .ok (.getfield 43, 3) := by decide +kernel
theorem d_T_add_77 : decode prog_6_method_10_code 77 = .ok (.iconst 1, 1) := by decide +kernel
theorem d_T_add_78 : decode prog_6_method_10_code 78 = .ok (.iastore, 1) := by decide +kernel
theorem d_T_add_79 : decode prog_6_method_10_code 79 = .ok (.aload_n 0, 1) := by decide +kernel
theorem d_T_add_80 : decode prog_6_method_10_code 80 = .ok (.dup, 1) := by decide +kernel
theorem d_T_add_81 : decode prog_6_method_10_code 81 = .ok (.getfield 43, 3) := by decide +kernel
theorem d_T_add_84 : decode prog_6_method_10_code 84 = .ok (.iconst 1, 1) := by decide +kernel
theorem d_T_add_85 : decode prog_6_method_10_code 85 = .ok (.iadd, 1) := by decide +kernel
theorem d_T_add_86 : decode prog_6_method_10_code 86 = .ok (.putfield 43, 3) := by decide +kernel
theorem d_T_add_89 : decode prog_6_method_10_code 89 = .ok (.return_, 1) := by decide +kernel
def wp_T_add (k : Nat) (l1 : Int32) (l2 : Int32) (l3 : Int32) (l4 : Int32) (h : zH) (post : zH → Prop) : Prop := xTm k ∧ wp_T_isFull k h (fun (r1 : Int32) (h2 : zH) => ((r1 = 0 → (vp_in (h2.1 k 10) 100 ∧ ∀ h3 : zH, h3 = zi h2 (k + 1) ((h2.1 k 10) : Int32).toNatClampNeg l1 → (vp_in (h3.1 k 10) 100 ∧ ∀ h4 : zH, h4 = zi h3 (k + 2) ((h3.1 k 10) : Int32).toNatClampNeg l2 → (vp_in (h4.1 k 10) 100 ∧ ∀ h5 : zH, h5 = zi h4 (k + 3) ((h4.1 k 10) : Int32).toNatClampNeg l3 → (vp_in (h5.1 k 10) 100 ∧ ∀ h6 : zH, h6 = zi h5 (k + 8) ((h5.1 k 10) : Int32).toNatClampNeg l4 → (vp_in (h6.1 k 10) 100 ∧ ∀ h7 : zH, h7 = zi h6 (k + 6) ((h6.1 k 10) : Int32).toNatClampNeg (-1) → (vp_in (h7.1 k 10) 100 ∧ ∀ h8 : zH, h8 = zi h7 (k + 7) ((h7.1 k 10) : Int32).toNatClampNeg (-1) → (vp_in (h8.1 k 10) 100 ∧ ∀ h9 : zH, h9 = zi h8 (k + 9) ((h8.1 k 10) : Int32).toNatClampNeg 1 → (∀ h10 : zH, h10 = zi h9 k 10 ((h9.1 k 10) + 1) → post h10))))))))) ∧ (¬ r1 = 0 → post h2)))
set_option maxRecDepth 100000 in
set_option maxHeartbeats 4000000 in
theorem t_T_add {l : Launch} {E : zE} {G : (Nat → Prop) → State → Prop} (hG : xGG E G) {k : Nat} {l1 : Int32} {l2 : Int32} {l3 : Int32} {l4 : Int32} {h : zH} {post : zH → Prop} (hw : wp_T_add k l1 l2 l3 l4 h post) : Ct l xX E xcl xN zT G 1 20 y_T_add prog_6_method_10_code 5 none [.ref (E.2.2.1 k), .int l1, .int l2, .int l3, .int l4] h (zPv post) := by
  unfold wp_T_add at hw
  obtain ⟨hk_k, hw⟩ := hw
  refine Ct.of (by decide) (Nat.le_of_ble_eq_true rfl) ?_
  intro p e s m below meth c A C hr
  refine z_lv (lv2 := [some (.ref (E.2.2.1 k)), some (.int l1), some (.int l2), some (.int l3), some (.int l4)]) rfl ?_
  refine z_aload_n C (i := 0) d_T_add_0 rfl rfl ?_
  refine z_callVi ⟨xN_ok, hG.1⟩ zT_good C (t_T_isFull hG hw) ol_T_55 (xTm_l0 hk_k) (xTm_0 hk_k) rfl (by decide) (by decide) pl_T_isFull rfl rfl (Nat.le_of_ble_eq_true rfl) d_T_add_1 (fun r1 h2 hw => ?_)
  refine z_if_eq C (tgt := 8) d_T_add_4 (by decide) (fun q => ?_) (fun q => ?_)
  · replace hw := hw.1 q
    refine z_aload_n C (i := 0) d_T_add_8 rfl rfl ?_
    refine z_getK C (ci := 3) (j := 0) (F := cf_T) (xTm_l0 hk_k) (xTm_0 hk_k) rfl in_T (by decide) fl_T_9 rfl d_T_add_9 ?_
    refine z_aload_n C (i := 0) d_T_add_12 rfl rfl ?_
    refine z_getI C (ci := 3) (j := 10) (F := cf_T) (xTm_l0 hk_k) (xTm_0 hk_k) rfl in_T (by decide) fl_T_43 rfl d_T_add_13 ?_
    refine z_iload_n C (i := 1) d_T_add_16 rfl rfl ?_
    refine z_iast C (xTm_l hk_k (by decide)) (xTm_1 hk_k) hw.1 d_T_add_17 (fun h3 eh3 => ?_)
    replace hw := hw.2 h3 eh3
    refine z_aload_n C (i := 0) d_T_add_18 rfl rfl ?_
    refine z_getK C (ci := 3) (j := 1) (F := cf_T) (xTm_l0 hk_k) (xTm_0 hk_k) rfl in_T (by decide) fl_T_15 rfl d_T_add_19 ?_
    refine z_aload_n C (i := 0) d_T_add_22 rfl rfl ?_
    refine z_getI C (ci := 3) (j := 10) (F := cf_T) (xTm_l0 hk_k) (xTm_0 hk_k) rfl in_T (by decide) fl_T_43 rfl d_T_add_23 ?_
    refine z_iload_n C (i := 2) d_T_add_26 rfl rfl ?_
    refine z_iast C (xTm_l hk_k (by decide)) (xTm_2 hk_k) hw.1 d_T_add_27 (fun h4 eh4 => ?_)
    replace hw := hw.2 h4 eh4
    refine z_aload_n C (i := 0) d_T_add_28 rfl rfl ?_
    refine z_getK C (ci := 3) (j := 2) (F := cf_T) (xTm_l0 hk_k) (xTm_0 hk_k) rfl in_T (by decide) fl_T_18 rfl d_T_add_29 ?_
    refine z_aload_n C (i := 0) d_T_add_32 rfl rfl ?_
    refine z_getI C (ci := 3) (j := 10) (F := cf_T) (xTm_l0 hk_k) (xTm_0 hk_k) rfl in_T (by decide) fl_T_43 rfl d_T_add_33 ?_
    refine z_iload_n C (i := 3) d_T_add_36 rfl rfl ?_
    refine z_iast C (xTm_l hk_k (by decide)) (xTm_3 hk_k) hw.1 d_T_add_37 (fun h5 eh5 => ?_)
    replace hw := hw.2 h5 eh5
    refine z_aload_n C (i := 0) d_T_add_38 rfl rfl ?_
    refine z_getK C (ci := 3) (j := 7) (F := cf_T) (xTm_l0 hk_k) (xTm_0 hk_k) rfl in_T (by decide) fl_T_33 rfl d_T_add_39 ?_
    refine z_aload_n C (i := 0) d_T_add_42 rfl rfl ?_
    refine z_getI C (ci := 3) (j := 10) (F := cf_T) (xTm_l0 hk_k) (xTm_0 hk_k) rfl in_T (by decide) fl_T_43 rfl d_T_add_43 ?_
    refine z_iload C d_T_add_46 rfl ?_
    refine z_iast C (xTm_l hk_k (by decide)) (xTm_8 hk_k) hw.1 d_T_add_48 (fun h6 eh6 => ?_)
    replace hw := hw.2 h6 eh6
    refine z_aload_n C (i := 0) d_T_add_49 rfl rfl ?_
    refine z_getK C (ci := 3) (j := 5) (F := cf_T) (xTm_l0 hk_k) (xTm_0 hk_k) rfl in_T (by decide) fl_T_27 rfl d_T_add_50 ?_
    refine z_aload_n C (i := 0) d_T_add_53 rfl rfl ?_
    refine z_getI C (ci := 3) (j := 10) (F := cf_T) (xTm_l0 hk_k) (xTm_0 hk_k) rfl in_T (by decide) fl_T_43 rfl d_T_add_54 ?_
    refine z_iconst C (v := (-1)) d_T_add_57 (by decide) ?_
    refine z_iast C (xTm_l hk_k (by decide)) (xTm_6 hk_k) hw.1 d_T_add_58 (fun h7 eh7 => ?_)
    replace hw := hw.2 h7 eh7
    refine z_aload_n C (i := 0) d_T_add_59 rfl rfl ?_
    refine z_getK C (ci := 3) (j := 6) (F := cf_T) (xTm_l0 hk_k) (xTm_0 hk_k) rfl in_T (by decide) fl_T_30 rfl d_T_add_60 ?_
    refine z_aload_n C (i := 0) d_T_add_63 rfl rfl ?_
    refine z_getI C (ci := 3) (j := 10) (F := cf_T) (xTm_l0 hk_k) (xTm_0 hk_k) rfl in_T (by decide) fl_T_43 rfl d_T_add_64 ?_
    refine z_iconst C (v := (-1)) d_T_add_67 (by decide) ?_
    refine z_iast C (xTm_l hk_k (by decide)) (xTm_7 hk_k) hw.1 d_T_add_68 (fun h8 eh8 => ?_)
    replace hw := hw.2 h8 eh8
    refine z_aload_n C (i := 0) d_T_add_69 rfl rfl ?_
    refine z_getK C (ci := 3) (j := 8) (F := cf_T) (xTm_l0 hk_k) (xTm_0 hk_k) rfl in_T (by decide) fl_T_36 rfl d_T_add_70 ?_
    refine z_aload_n C (i := 0) d_T_add_73 rfl rfl ?_
    refine z_getI C (ci := 3) (j := 10) (F := cf_T) (xTm_l0 hk_k) (xTm_0 hk_k) rfl in_T (by decide) fl_T_43 rfl d_T_add_74 ?_
    refine z_iconst C (v := 1) d_T_add_77 (by decide) ?_
    refine z_iast C (xTm_l hk_k (by decide)) (xTm_9 hk_k) hw.1 d_T_add_78 (fun h9 eh9 => ?_)
    replace hw := hw.2 h9 eh9
    refine z_aload_n C (i := 0) d_T_add_79 rfl rfl ?_
    refine z_dup C d_T_add_80 rfl ?_
    refine z_getI C (ci := 3) (j := 10) (F := cf_T) (xTm_l0 hk_k) (xTm_0 hk_k) rfl in_T (by decide) fl_T_43 rfl d_T_add_81 ?_
    refine z_iconst C (v := 1) d_T_add_84 (by decide) ?_
    refine z_iadd C d_T_add_85 ?_
    refine z_putI C (ci := 3) (j := 10) (F := cf_T) ct_T (xTm_l0 hk_k) (xTm_0 hk_k) rfl in_T ty_T nm_T (by decide) fl_T_43 rfl (by decide +kernel) rfl d_T_add_86 (fun h10 eh10 => ?_)
    replace hw := hw h10 eh10
    exact z_vret C hr d_T_add_89 hw
  · replace hw := hw.2 q
    exact z_vret C hr d_T_add_7 hw
theorem d_T_has_0 : decode prog_6_method_3_code 0 = .ok (.iload_n 1, 1) := by decide +kernel
theorem d_T_has_1 : decode prog_6_method_3_code 1 = .ok (.ifCond .lt (21), 3) := by decide +kernel
theorem d_T_has_4 : decode prog_6_method_3_code 4 = .ok (.iload_n 1, 1) := by decide +kernel
theorem d_T_has_5 : decode prog_6_method_3_code 5 = .ok (.aload_n 0, 1) := by decide +kernel
theorem d_T_has_6 : decode prog_6_method_3_code 6 = .ok (.getfield 43, 3) := by decide +kernel
theorem d_T_has_9 : decode prog_6_method_3_code 9 = .ok (.if_icmp .ge (13), 3) := by decide +kernel
theorem d_T_has_12 : decode prog_6_method_3_code 12 = .ok (.iload_n 1, 1) := by decide +kernel
theorem d_T_has_13 : decode prog_6_method_3_code 13 = .ok (.bipush (100), 2) := by decide +kernel
theorem d_T_has_15 : decode prog_6_method_3_code 15 = .ok (.if_icmp .ge (7), 3) := by decide +kernel
theorem d_T_has_18 : decode prog_6_method_3_code 18 = .ok (.iconst 1, 1) := by decide +kernel
theorem d_T_has_19 : decode prog_6_method_3_code 19 = .ok (.goto (4), 3) := by decide +kernel
theorem d_T_has_22 : decode prog_6_method_3_code 22 = .ok (.iconst 0, 1) := by decide +kernel
theorem d_T_has_23 : decode prog_6_method_3_code 23 = .ok (.ireturn, 1) := by decide +kernel
def b_T_has_23 (k : Nat) (post : Int32 → zH → Prop) (s0 : Int32) (h : zH) : Prop := (narrow .boolean (.int s0) = .int s0 ∧ post s0 h)
def b_T_has_22 (k : Nat) (post : Int32 → zH → Prop) (h : zH) : Prop := b_T_has_23 k post (0) h
def wp_T_has (k : Nat) (l1 : Int32) (h : zH) (post : Int32 → zH → Prop) : Prop := xTm k ∧ ((l1 < 0 → b_T_has_22 k post  h) ∧ (¬ l1 < 0 → (((h.1 k 10) ≤ l1 → b_T_has_22 k post  h) ∧ (¬ (h.1 k 10) ≤ l1 → ((100 ≤ l1 → b_T_has_22 k post  h) ∧ (¬ 100 ≤ l1 → b_T_has_23 k post (1) h))))))
set_option maxRecDepth 100000 in
set_option maxHeartbeats 4000000 in
theorem w_T_has_23 {k : Nat} {l : Launch} {E : zE} {G : (Nat → Prop) → State → Prop} {p : Program} {e : Env} {s : State} {m : MethodId} {args : Array Value} {below : List Frame} {meth : Method} {c : Code} {A : Nat → Prop} {post : Int32 → zH → Prop} (hG : xGG E G) (C : zCx p s m args meth c E G A 0 0 prog_6_method_3_code 2 cn_T) (hr : meth.sig.returnType = (some .boolean)) (hk_k : xTm k)  (s0 : Int32) (h : zH) (hw : b_T_has_23 k post s0 h) : zGo p l e s m args below meth c E A 0 0 2 (zPi post) h 23 [none, none] [.int s0] := by
  unfold b_T_has_23 at hw
  exact z_zret C hr hw.1 d_T_has_23 hw.2
set_option maxRecDepth 100000 in
set_option maxHeartbeats 4000000 in
theorem w_T_has_22 {k : Nat} {l : Launch} {E : zE} {G : (Nat → Prop) → State → Prop} {p : Program} {e : Env} {s : State} {m : MethodId} {args : Array Value} {below : List Frame} {meth : Method} {c : Code} {A : Nat → Prop} {post : Int32 → zH → Prop} (hG : xGG E G) (C : zCx p s m args meth c E G A 0 0 prog_6_method_3_code 2 cn_T) (hr : meth.sig.returnType = (some .boolean)) (hk_k : xTm k)  (h : zH) (hw : b_T_has_22 k post  h) : zGo p l e s m args below meth c E A 0 0 2 (zPi post) h 22 [none, none] [] := by
  unfold b_T_has_22 at hw
  refine z_iconst C (v := 0) d_T_has_22 (by decide) ?_
  refine z_le (lv2 := [none, none]) (trivial) ?_
  exact w_T_has_23 hG C hr hk_k _ _ hw
set_option maxRecDepth 100000 in
set_option maxHeartbeats 4000000 in
theorem t_T_has {l : Launch} {E : zE} {G : (Nat → Prop) → State → Prop} (hG : xGG E G) {k : Nat} {l1 : Int32} {h : zH} {post : Int32 → zH → Prop} (hw : wp_T_has k l1 h post) : Ct l xX E xcl xN zT G 0 0 y_T_has prog_6_method_3_code 2 (some .boolean) [.ref (E.2.2.1 k), .int l1] h (zPi post) := by
  unfold wp_T_has at hw
  obtain ⟨hk_k, hw⟩ := hw
  refine Ct.of (by decide) (Nat.le_of_ble_eq_true rfl) ?_
  intro p e s m below meth c A C hr
  refine z_lv (lv2 := [some (.ref (E.2.2.1 k)), some (.int l1)]) rfl ?_
  refine z_iload_n C (i := 1) d_T_has_0 rfl rfl ?_
  refine z_if_lt C (tgt := 22) d_T_has_1 (by decide) (fun q => ?_) (fun q => ?_)
  · replace hw := hw.1 q
    refine z_le (lv2 := [none, none]) (trivial) ?_
    exact w_T_has_22 hG C hr hk_k  _ hw
  · replace hw := hw.2 q
    refine z_iload_n C (i := 1) d_T_has_4 rfl rfl ?_
    refine z_aload_n C (i := 0) d_T_has_5 rfl rfl ?_
    refine z_getI C (ci := 3) (j := 10) (F := cf_T) (xTm_l0 hk_k) (xTm_0 hk_k) rfl in_T (by decide) fl_T_43 rfl d_T_has_6 ?_
    refine z_icmp_ge C (tgt := 22) d_T_has_9 (by decide) (fun q => ?_) (fun q => ?_)
    · replace hw := hw.1 q
      refine z_le (lv2 := [none, none]) (trivial) ?_
      exact w_T_has_22 hG C hr hk_k  _ hw
    · replace hw := hw.2 q
      refine z_iload_n C (i := 1) d_T_has_12 rfl rfl ?_
      refine z_bipush C (v := 100) d_T_has_13 (by decide) ?_
      refine z_icmp_ge C (tgt := 22) d_T_has_15 (by decide) (fun q => ?_) (fun q => ?_)
      · replace hw := hw.1 q
        refine z_le (lv2 := [none, none]) (trivial) ?_
        exact w_T_has_22 hG C hr hk_k  _ hw
      · replace hw := hw.2 q
        refine z_iconst C (v := 1) d_T_has_18 (by decide) ?_
        refine z_goto C (tgt := 23) d_T_has_19 (by decide) ?_
        refine z_le (lv2 := [none, none]) (trivial) ?_
        exact w_T_has_23 hG C hr hk_k _ _ hw
theorem d_T_tellRange_0 : decode prog_6_method_11_code 0 = .ok (.aload_n 0, 1) := by decide +kernel
theorem d_T_tellRange_1 : decode prog_6_method_11_code 1 = .ok (.getfield 43, 3) := by decide +kernel
theorem d_T_tellRange_4 : decode prog_6_method_11_code 4 = .ok (.iconst 1, 1) := by decide +kernel
theorem d_T_tellRange_5 : decode prog_6_method_11_code 5 = .ok (.isub, 1) := by decide +kernel
theorem d_T_tellRange_6 : decode prog_6_method_11_code 6 = .ok (.istore 5, 2) := by decide +kernel
theorem d_T_tellRange_8 : decode prog_6_method_11_code 8 = .ok (.aload_n 0, 1) := by decide +kernel
theorem d_T_tellRange_9 : decode prog_6_method_11_code 9 = .ok (.iload 5, 2) := by decide +kernel
theorem d_T_tellRange_11 : decode prog_6_method_11_code 11 = .ok (.invokevirtual 51, 3) := by decide +kernel
theorem d_T_tellRange_14 : decode prog_6_method_11_code 14 = .ok (.ifCond .eq (21), 3) := by decide +kernel
theorem d_T_tellRange_17 : decode prog_6_method_11_code 17 = .ok (.aload_n 0, 1) := by decide +kernel
theorem d_T_tellRange_18 : decode prog_6_method_11_code 18 = .ok (.getfield 21, 3) := by decide +kernel
theorem d_T_tellRange_21 : decode prog_6_method_11_code 21 = .ok (.iload 5, 2) := by decide +kernel
theorem d_T_tellRange_23 : decode prog_6_method_11_code 23 = .ok (.lload_n 1, 1) := by decide +kernel
theorem d_T_tellRange_24 : decode prog_6_method_11_code 24 = .ok (.l2i, 1) := by decide +kernel
theorem d_T_tellRange_25 : decode prog_6_method_11_code 25 = .ok (.iastore, 1) := by decide +kernel
theorem d_T_tellRange_26 : decode prog_6_method_11_code 26 = .ok (.aload_n 0, 1) := by decide +kernel
theorem d_T_tellRange_27 : decode prog_6_method_11_code 27 = .ok (.getfield 24, 3) := by decide +kernel
theorem d_T_tellRange_30 : decode prog_6_method_11_code 30 = .ok (.iload 5, 2) := by decide +kernel
theorem d_T_tellRange_32 : decode prog_6_method_11_code 32 = .ok (.lload_n 3, 1) := by decide +kernel
theorem d_T_tellRange_33 : decode prog_6_method_11_code 33 = .ok (.l2i, 1) := by decide +kernel
theorem d_T_tellRange_34 : decode prog_6_method_11_code 34 = .ok (.iastore, 1) := by decide +kernel
theorem d_T_tellRange_35 : decode prog_6_method_11_code 35 = .ok (.return_, 1) := by decide +kernel
def b_T_tellRange_35 (k : Nat) (post : zH → Prop) (h : zH) : Prop := post h
def wp_T_tellRange (k : Nat) (l1 : Int64) (l3 : Int64) (h : zH) (post : zH → Prop) : Prop := xTm k ∧ wp_T_has k (((h.1 k 10) - 1)) h (fun (r1 : Int32) (h2 : zH) => ((r1 = 0 → b_T_tellRange_35 k post  h2) ∧ (¬ r1 = 0 → (vp_in ((h.1 k 10) - 1) 100 ∧ ∀ h3 : zH, h3 = zi h2 (k + 4) (((h.1 k 10) - 1) : Int32).toNatClampNeg (l1 : Int64).toInt32 → (vp_in ((h.1 k 10) - 1) 100 ∧ ∀ h4 : zH, h4 = zi h3 (k + 5) (((h.1 k 10) - 1) : Int32).toNatClampNeg (l3 : Int64).toInt32 → b_T_tellRange_35 k post  h4)))))
set_option maxRecDepth 100000 in
set_option maxHeartbeats 4000000 in
theorem w_T_tellRange_35 {k : Nat} {l : Launch} {E : zE} {G : (Nat → Prop) → State → Prop} {p : Program} {e : Env} {s : State} {m : MethodId} {args : Array Value} {below : List Frame} {meth : Method} {c : Code} {A : Nat → Prop} {post : zH → Prop} (hG : xGG E G) (C : zCx p s m args meth c E G A 1 21 prog_6_method_11_code 6 cn_T) (hr : meth.sig.returnType = none) (hk_k : xTm k)  (h : zH) (hw : b_T_tellRange_35 k post  h) : zGo p l e s m args below meth c E A 1 21 6 (zPv post) h 35 [none, none, none, none, none, none] [] := by
  unfold b_T_tellRange_35 at hw
  exact z_vret C hr d_T_tellRange_35 hw
set_option maxRecDepth 100000 in
set_option maxHeartbeats 4000000 in
theorem t_T_tellRange {l : Launch} {E : zE} {G : (Nat → Prop) → State → Prop} (hG : xGG E G) {k : Nat} {l1 : Int64} {l3 : Int64} {h : zH} {post : zH → Prop} (hw : wp_T_tellRange k l1 l3 h post) : Ct l xX E xcl xN zT G 1 21 y_T_tellRange prog_6_method_11_code 6 none [.ref (E.2.2.1 k), .long l1, .long l3] h (zPv post) := by
  unfold wp_T_tellRange at hw
  obtain ⟨hk_k, hw⟩ := hw
  refine Ct.of (by decide) (Nat.le_of_ble_eq_true rfl) ?_
  intro p e s m below meth c A C hr
  refine z_lv (lv2 := [some (.ref (E.2.2.1 k)), some (.long l1), none, some (.long l3), none, none]) rfl ?_
  refine z_aload_n C (i := 0) d_T_tellRange_0 rfl rfl ?_
  refine z_getI C (ci := 3) (j := 10) (F := cf_T) (xTm_l0 hk_k) (xTm_0 hk_k) rfl in_T (by decide) fl_T_43 rfl d_T_tellRange_1 ?_
  refine z_iconst C (v := 1) d_T_tellRange_4 (by decide) ?_
  refine z_isub C d_T_tellRange_5 ?_
  refine z_istore C d_T_tellRange_6 (by decide) rfl ?_
  refine z_aload_n C (i := 0) d_T_tellRange_8 rfl rfl ?_
  refine z_iload C d_T_tellRange_9 rfl ?_
  refine z_callVi ⟨xN_ok, hG.1⟩ zT_good C (t_T_has hG hw) ol_T_51 (xTm_l0 hk_k) (xTm_0 hk_k) rfl (by decide) (by decide) pl_T_has rfl rfl (Nat.le_of_ble_eq_true rfl) d_T_tellRange_11 (fun r1 h2 hw => ?_)
  refine z_if_eq C (tgt := 35) d_T_tellRange_14 (by decide) (fun q => ?_) (fun q => ?_)
  · replace hw := hw.1 q
    refine z_le (lv2 := [none, none, none, none, none, none]) (trivial) ?_
    exact w_T_tellRange_35 hG C hr hk_k  _ hw
  · replace hw := hw.2 q
    refine z_aload_n C (i := 0) d_T_tellRange_17 rfl rfl ?_
    refine z_getK C (ci := 3) (j := 3) (F := cf_T) (xTm_l0 hk_k) (xTm_0 hk_k) rfl in_T (by decide) fl_T_21 rfl d_T_tellRange_18 ?_
    refine z_iload C d_T_tellRange_21 rfl ?_
    refine z_lload_n C (i := 1) d_T_tellRange_23 rfl rfl ?_
    refine z_l2i C d_T_tellRange_24 ?_
    refine z_iast C (xTm_l hk_k (by decide)) (xTm_4 hk_k) hw.1 d_T_tellRange_25 (fun h3 eh3 => ?_)
    replace hw := hw.2 h3 eh3
    refine z_aload_n C (i := 0) d_T_tellRange_26 rfl rfl ?_
    refine z_getK C (ci := 3) (j := 4) (F := cf_T) (xTm_l0 hk_k) (xTm_0 hk_k) rfl in_T (by decide) fl_T_24 rfl d_T_tellRange_27 ?_
    refine z_iload C d_T_tellRange_30 rfl ?_
    refine z_lload_n C (i := 3) d_T_tellRange_32 rfl rfl ?_
    refine z_l2i C d_T_tellRange_33 ?_
    refine z_iast C (xTm_l hk_k (by decide)) (xTm_5 hk_k) hw.1 d_T_tellRange_34 (fun h4 eh4 => ?_)
    replace hw := hw.2 h4 eh4
    refine z_le (lv2 := [none, none, none, none, none, none]) (trivial) ?_
    exact w_T_tellRange_35 hG C hr hk_k  _ hw
theorem d_P_addPart_0 : decode prog_2_method_9_code 0 = .ok (.aload_n 0, 1) := by decide +kernel
theorem d_P_addPart_1 : decode prog_2_method_9_code 1 = .ok (.getfield 58, 3) := by decide +kernel
theorem d_P_addPart_4 : decode prog_2_method_9_code 4 = .ok (.invokevirtual 136, 3) := by decide +kernel
theorem d_P_addPart_7 : decode prog_2_method_9_code 7 = .ok (.ifCond .ne (19), 3) := by decide +kernel
theorem d_P_addPart_10 : decode prog_2_method_9_code 10 = .ok (.aload_n 0, 1) := by decide +kernel
theorem d_P_addPart_11 : decode prog_2_method_9_code 11 = .ok (.getfield 22, 3) := by decide +kernel
theorem d_P_addPart_14 : decode prog_2_method_9_code 14 = .ok (.ifCond .lt (12), 3) := by decide +kernel
theorem d_P_addPart_17 : decode prog_2_method_9_code 17 = .ok (.aload_n 0, 1) := by decide +kernel
theorem d_P_addPart_18 : decode prog_2_method_9_code 18 = .ok (.getfield 22, 3) := by decide +kernel
theorem d_P_addPart_21 : decode prog_2_method_9_code 21 = .ok (.bipush (100), 2) := by decide +kernel
theorem d_P_addPart_23 : decode prog_2_method_9_code 23 = .ok (.if_icmp .lt (11), 3) := by decide +kernel
theorem d_P_addPart_26 : decode prog_2_method_9_code 26 = .ok (.aload_n 0, 1) := by decide +kernel
theorem d_P_addPart_27 : decode prog_2_method_9_code 27 = .ok (.bipush (6), 2) := by decide +kernel
theorem d_P_addPart_29 : decode prog_2_method_9_code 29 = .ok (.iload_n 2, 1) := by decide +kernel
theorem d_P_addPart_30 : decode prog_2_method_9_code 30 = .ok (.invokevirtual 114, 3) := by decide +kernel
theorem d_P_addPart_33 : decode prog_2_method_9_code 33 = .ok (.return_, 1) := by decide +kernel
theorem d_P_addPart_34 : decode prog_2_method_9_code 34 = .ok (.aload_n 0, 1) := by decide +kernel
theorem d_P_addPart_35 : decode prog_2_method_9_code 35 = .ok (.getfield 58, 3) := by decide +kernel
theorem d_P_addPart_38 : decode prog_2_method_9_code 38 = .ok (.iload_n 1, 1) := by decide +kernel
theorem d_P_addPart_39 : decode prog_2_method_9_code 39 = .ok (.iload_n 2, 1) := by decide +kernel
theorem d_P_addPart_40 : decode prog_2_method_9_code 40 = .ok (.iload_n 3, 1) := by decide +kernel
theorem d_P_addPart_41 : decode prog_2_method_9_code 41 = .ok (.iload 4, 2) := by decide +kernel
theorem d_P_addPart_43 : decode prog_2_method_9_code 43 = .ok (.invokevirtual 139, 3) := by decide +kernel
theorem d_P_addPart_46 : decode prog_2_method_9_code 46 = .ok (.aload_n 0, 1) := by decide +kernel
theorem d_P_addPart_47 : decode prog_2_method_9_code 47 = .ok (.getfield 58, 3) := by decide +kernel
theorem d_P_addPart_50 : decode prog_2_method_9_code 50 = .ok (.aload_n 0, 1) := by decide +kernel
theorem d_P_addPart_51 : decode prog_2_method_9_code 51 = .ok (.getfield 36, 3) := by decide +kernel
theorem d_P_addPart_54 : decode prog_2_method_9_code 54 = .ok (.getfield 142, 3) := by decide +kernel
theorem d_P_addPart_57 : decode prog_2_method_9_code 57 = .ok (.aload_n 0, 1) := by decide +kernel
theorem d_P_addPart_58 : decode prog_2_method_9_code 58 = .ok (.getfield 36, 3) := by decide +kernel
theorem d_P_addPart_61 : decode prog_2_method_9_code 61 = .ok (.getfield 146, 3) := by decide +kernel
theorem d_P_addPart_64 : decode prog_2_method_9_code 64 = .ok (.invokevirtual 149, 3) := by decide +kernel
theorem d_P_addPart_67 : decode prog_2_method_9_code 67 = .ok (.aload_n 0, 1) := by decide +kernel
theorem d_P_addPart_68 : decode prog_2_method_9_code 68 = .ok (.getfield 18, 3) := by decide +kernel
theorem d_P_addPart_71 : decode prog_2_method_9_code 71 = .ok (.aload_n 0, 1) := by decide +kernel
theorem d_P_addPart_72 : decode prog_2_method_9_code 72 = .ok (.getfield 22, 3) := by decide +kernel
theorem d_P_addPart_75 : decode prog_2_method_9_code 75 = .ok (.aload_n 0, 1) := by decide +kernel
theorem d_P_addPart_76 : decode prog_2_method_9_code 76 = .ok (.getfield 58, 3) := by decide +kernel
theorem d_P_addPart_79 : decode prog_2_method_9_code 79 = .ok (.getfield 152, 3) := by decide +kernel
theorem d_P_addPart_82 : decode prog_2_method_9_code 82 = .ok (.iconst 1, 1) := by decide +kernel
theorem d_P_addPart_83 : decode prog_2_method_9_code 83 = .ok (.isub, 1) := by decide +kernel
theorem d_P_addPart_84 : decode prog_2_method_9_code 84 = .ok (.iastore, 1) := by decide +kernel
theorem d_P_addPart_85 : decode prog_2_method_9_code 85 = .ok (.aload_n 0, 1) := by decide +kernel
theorem d_P_addPart_86 : decode prog_2_method_9_code 86 = .ok (.dup, 1) := by decide +kernel
theorem d_P_addPart_87 : decode prog_2_method_9_code 87 = .ok (.getfield 22, 3) := by decide +kernel
theorem d_P_addPart_90 : decode prog_2_method_9_code 90 = .ok (.iconst 1, 1) := by decide +kernel
theorem d_P_addPart_91 : decode prog_2_method_9_code 91 = .ok (.iadd, 1) := by decide +kernel
theorem d_P_addPart_92 : decode prog_2_method_9_code 92 = .ok (.putfield 22, 3) := by decide +kernel
theorem d_P_addPart_95 : decode prog_2_method_9_code 95 = .ok (.aload_n 0, 1) := by decide +kernel
theorem d_P_addPart_96 : decode prog_2_method_9_code 96 = .ok (.iconst 2, 1) := by decide +kernel
theorem d_P_addPart_97 : decode prog_2_method_9_code 97 = .ok (.putfield 39, 3) := by decide +kernel
theorem d_P_addPart_100 : decode prog_2_method_9_code 100 = .ok (.return_, 1) := by decide +kernel
def b_P_addPart_26 (post : zH → Prop) (l2 : Int32) (h : zH) : Prop := wp_P_blame (6) (l2) h (fun (h2 : zH) => post h2)
def wp_P_addPart (l1 : Int32) (l2 : Int32) (l3 : Int32) (l4 : Int32) (h : zH) (post : zH → Prop) : Prop := (xTm (h.2.2 29 8) ∧ wp_T_isFull (h.2.2 29 8) h (fun (r4 : Int32) (h5 : zH) => ((¬ r4 = 0 → b_P_addPart_26 post (l2) h5) ∧ (r4 = 0 → (((h5.1 29 4) < 0 → b_P_addPart_26 post (l2) h5) ∧ (¬ (h5.1 29 4) < 0 → (((h5.1 29 4) < 100 → (xTm (h5.2.2 29 8) ∧ wp_T_add (h5.2.2 29 8) (l1) (l2) (l3) (l4) h5 (fun (h8 : zH) => (xTm (h8.2.2 29 8) ∧ wp_T_tellRange (h8.2.2 29 8) ((h8.2.1 38 0)) ((h8.2.1 38 1)) h8 (fun (h11 : zH) => (xTm (h11.2.2 29 8) ∧ (vp_in (h11.1 29 4) 100 ∧ ∀ h13 : zH, h13 = zi h11 35 ((h11.1 29 4) : Int32).toNatClampNeg ((h11.1 (h11.2.2 29 8) 10) - 1) → (∀ h14 : zH, h14 = zi h13 29 4 ((h13.1 29 4) + 1) → (∀ h15 : zH, h15 = zi h14 29 9 2 → post h15))))))))) ∧ (¬ (h5.1 29 4) < 100 → b_P_addPart_26 post (l2) h5))))))))
set_option maxRecDepth 100000 in
set_option maxHeartbeats 4000000 in
theorem w_P_addPart_26 {l : Launch} {E : zE} {G : (Nat → Prop) → State → Prop} {p : Program} {e : Env} {s : State} {m : MethodId} {args : Array Value} {below : List Frame} {meth : Method} {c : Code} {A : Nat → Prop} {post : zH → Prop} (hG : xGG E G) (C : zCx p s m args meth c E G A 2 46 prog_2_method_9_code 5 cn_P) (hr : meth.sig.returnType = none)  (l2 : Int32) (h : zH) (hw : b_P_addPart_26 post l2 h) : zGo p l e s m args below meth c E A 2 46 5 (zPv post) h 26 [some (.ref (E.2.2.1 29)), none, some (.int l2), none, none] [] := by
  unfold b_P_addPart_26 at hw
  refine z_aload_n C (i := 0) d_P_addPart_26 rfl rfl ?_
  refine z_bipush C (v := 6) d_P_addPart_27 (by decide) ?_
  refine z_iload_n C (i := 2) d_P_addPart_29 rfl rfl ?_
  refine z_callVv ⟨xN_ok, hG.1⟩ zT_good C (t_P_blame hG hw) ol_P_114 (by decide) rfl rfl (by decide) (by decide) pl_P_blame rfl rfl (Nat.le_of_ble_eq_true rfl) d_P_addPart_30 (fun h2 hw => ?_)
  exact z_vret C hr d_P_addPart_33 hw
set_option maxRecDepth 100000 in
set_option maxHeartbeats 4000000 in
theorem t_P_addPart {l : Launch} {E : zE} {G : (Nat → Prop) → State → Prop} (hG : xGG E G) {l1 : Int32} {l2 : Int32} {l3 : Int32} {l4 : Int32} {h : zH} {post : zH → Prop} (hw : wp_P_addPart l1 l2 l3 l4 h post) : Ct l xX E xcl xN zT G 2 46 y_P_addPart prog_2_method_9_code 5 none [.ref (E.2.2.1 29), .int l1, .int l2, .int l3, .int l4] h (zPv post) := by
  unfold wp_P_addPart at hw
  refine Ct.of (by decide) (Nat.le_of_ble_eq_true rfl) ?_
  intro p e s m below meth c A C hr
  refine z_lv (lv2 := [some (.ref (E.2.2.1 29)), some (.int l1), some (.int l2), some (.int l3), some (.int l4)]) rfl ?_
  refine z_aload_n C (i := 0) d_P_addPart_0 rfl rfl ?_
  refine z_getR C (ci := 4) (j := 8) (F := cf_P) (by decide) rfl rfl in_P (by decide) fl_P_58 rfl d_P_addPart_1 ?_
  obtain ⟨hk3, hw⟩ := hw
  refine z_callVNi ⟨xN_ok, hG.1⟩ zT_good C (t_T_isFull hG hw) wn_T_isFull nl_P_136 (xTm_l0 hk3) (xTm_0 hk3) rfl (by decide) (by decide) pl_T_isFull rfl rfl (Nat.le_of_ble_eq_true rfl) d_P_addPart_4 (fun r4 h5 hw => ?_)
  refine z_if_ne C (tgt := 26) d_P_addPart_7 (by decide) (fun q => ?_) (fun q => ?_)
  · replace hw := hw.1 q
    refine z_le (lv2 := [some (.ref (E.2.2.1 29)), none, some (.int l2), none, none]) (⟨rfl, ⟨rfl, trivial⟩⟩) ?_
    exact w_P_addPart_26 hG C hr _ _ hw
  · replace hw := hw.2 q
    refine z_aload_n C (i := 0) d_P_addPart_10 rfl rfl ?_
    refine z_getI C (ci := 4) (j := 4) (F := cf_P) (by decide) rfl rfl in_P (by decide) fl_P_22 rfl d_P_addPart_11 ?_
    refine z_if_lt C (tgt := 26) d_P_addPart_14 (by decide) (fun q => ?_) (fun q => ?_)
    · replace hw := hw.1 q
      refine z_le (lv2 := [some (.ref (E.2.2.1 29)), none, some (.int l2), none, none]) (⟨rfl, ⟨rfl, trivial⟩⟩) ?_
      exact w_P_addPart_26 hG C hr _ _ hw
    · replace hw := hw.2 q
      refine z_aload_n C (i := 0) d_P_addPart_17 rfl rfl ?_
      refine z_getI C (ci := 4) (j := 4) (F := cf_P) (by decide) rfl rfl in_P (by decide) fl_P_22 rfl d_P_addPart_18 ?_
      refine z_bipush C (v := 100) d_P_addPart_21 (by decide) ?_
      refine z_icmp_lt C (tgt := 34) d_P_addPart_23 (by decide) (fun q => ?_) (fun q => ?_)
      · replace hw := hw.1 q
        refine z_aload_n C (i := 0) d_P_addPart_34 rfl rfl ?_
        refine z_getR C (ci := 4) (j := 8) (F := cf_P) (by decide) rfl rfl in_P (by decide) fl_P_58 rfl d_P_addPart_35 ?_
        refine z_iload_n C (i := 1) d_P_addPart_38 rfl rfl ?_
        refine z_iload_n C (i := 2) d_P_addPart_39 rfl rfl ?_
        refine z_iload_n C (i := 3) d_P_addPart_40 rfl rfl ?_
        refine z_iload C d_P_addPart_41 rfl ?_
        obtain ⟨hk6, hw⟩ := hw
        refine z_callVNv ⟨xN_ok, hG.1⟩ zT_good C (t_T_add hG hw) wn_T_add nl_P_139 (xTm_l0 hk6) (xTm_0 hk6) rfl (by decide) (by decide) pl_T_add rfl rfl (Nat.le_of_ble_eq_true rfl) d_P_addPart_43 (fun h8 hw => ?_)
        refine z_aload_n C (i := 0) d_P_addPart_46 rfl rfl ?_
        refine z_getR C (ci := 4) (j := 8) (F := cf_P) (by decide) rfl rfl in_P (by decide) fl_P_58 rfl d_P_addPart_47 ?_
        refine z_aload_n C (i := 0) d_P_addPart_50 rfl rfl ?_
        refine z_getS C (ci := 4) (j := 7) (F := cf_P) (by decide) rfl rfl in_P (by decide) fl_P_36 rfl d_P_addPart_51 ?_
        refine z_getLN C (ci := 7) (j := 0) (F := cf_N) (by decide) rfl rfl in_N (by decide) fn_P_142 rfl d_P_addPart_54 ?_
        refine z_aload_n C (i := 0) d_P_addPart_57 rfl rfl ?_
        refine z_getS C (ci := 4) (j := 7) (F := cf_P) (by decide) rfl rfl in_P (by decide) fl_P_36 rfl d_P_addPart_58 ?_
        refine z_getLN C (ci := 7) (j := 1) (F := cf_N) (by decide) rfl rfl in_N (by decide) fn_P_146 rfl d_P_addPart_61 ?_
        obtain ⟨hk9, hw⟩ := hw
        refine z_callVNv ⟨xN_ok, hG.1⟩ zT_good C (t_T_tellRange hG hw) wn_T_tellRange nl_P_149 (xTm_l0 hk9) (xTm_0 hk9) rfl (by decide) (by decide) pl_T_tellRange rfl rfl (Nat.le_of_ble_eq_true rfl) d_P_addPart_64 (fun h11 hw => ?_)
        refine z_aload_n C (i := 0) d_P_addPart_67 rfl rfl ?_
        refine z_getS C (ci := 4) (j := 3) (F := cf_P) (by decide) rfl rfl in_P (by decide) fl_P_18 rfl d_P_addPart_68 ?_
        refine z_aload_n C (i := 0) d_P_addPart_71 rfl rfl ?_
        refine z_getI C (ci := 4) (j := 4) (F := cf_P) (by decide) rfl rfl in_P (by decide) fl_P_22 rfl d_P_addPart_72 ?_
        refine z_aload_n C (i := 0) d_P_addPart_75 rfl rfl ?_
        refine z_getR C (ci := 4) (j := 8) (F := cf_P) (by decide) rfl rfl in_P (by decide) fl_P_58 rfl d_P_addPart_76 ?_
        obtain ⟨hk12, hw⟩ := hw
        refine z_getIN C (ci := 3) (j := 10) (F := cf_T) (xTm_l0 hk12) (xTm_0 hk12) rfl in_T (by decide) fn_P_152 rfl d_P_addPart_79 ?_
        refine z_iconst C (v := 1) d_P_addPart_82 (by decide) ?_
        refine z_isub C d_P_addPart_83 ?_
        refine z_iast C (by decide) rfl hw.1 d_P_addPart_84 (fun h13 eh13 => ?_)
        replace hw := hw.2 h13 eh13
        refine z_aload_n C (i := 0) d_P_addPart_85 rfl rfl ?_
        refine z_dup C d_P_addPart_86 rfl ?_
        refine z_getI C (ci := 4) (j := 4) (F := cf_P) (by decide) rfl rfl in_P (by decide) fl_P_22 rfl d_P_addPart_87 ?_
        refine z_iconst C (v := 1) d_P_addPart_90 (by decide) ?_
        refine z_iadd C d_P_addPart_91 ?_
        refine z_putI C (ci := 4) (j := 4) (F := cf_P) ct_P (by decide) rfl rfl in_P ty_P nm_P (by decide) fl_P_22 rfl (by decide +kernel) rfl d_P_addPart_92 (fun h14 eh14 => ?_)
        replace hw := hw h14 eh14
        refine z_aload_n C (i := 0) d_P_addPart_95 rfl rfl ?_
        refine z_iconst C (v := 2) d_P_addPart_96 (by decide) ?_
        refine z_putI C (ci := 4) (j := 9) (F := cf_P) ct_P (by decide) rfl rfl in_P ty_P nm_P (by decide) fl_P_39 rfl (by decide +kernel) rfl d_P_addPart_97 (fun h15 eh15 => ?_)
        replace hw := hw h15 eh15
        exact z_vret C hr d_P_addPart_100 hw
      · replace hw := hw.2 q
        refine z_le (lv2 := [some (.ref (E.2.2.1 29)), none, some (.int l2), none, none]) (⟨rfl, ⟨rfl, trivial⟩⟩) ?_
        exact w_P_addPart_26 hG C hr _ _ hw
theorem d_T_kindOf_0 : decode prog_6_method_6_code 0 = .ok (.aload_n 0, 1) := by decide +kernel
theorem d_T_kindOf_1 : decode prog_6_method_6_code 1 = .ok (.getfield 18, 3) := by decide +kernel
theorem d_T_kindOf_4 : decode prog_6_method_6_code 4 = .ok (.iload_n 1, 1) := by decide +kernel
theorem d_T_kindOf_5 : decode prog_6_method_6_code 5 = .ok (.invokestatic 47, 3) := by decide +kernel
theorem d_T_kindOf_8 : decode prog_6_method_6_code 8 = .ok (.ireturn, 1) := by decide +kernel
def wp_T_kindOf (k : Nat) (l1 : Int32) (h : zH) (post : Int32 → zH → Prop) : Prop := xTm k ∧ wp_R_at (k + 3) 100 (l1) h (fun (r1 : Int32) (h2 : zH) => post r1 h2)
set_option maxRecDepth 100000 in
set_option maxHeartbeats 4000000 in
theorem t_T_kindOf {l : Launch} {E : zE} {G : (Nat → Prop) → State → Prop} (hG : xGG E G) {k : Nat} {l1 : Int32} {h : zH} {post : Int32 → zH → Prop} (hw : wp_T_kindOf k l1 h post) : Ct l xX E xcl xN zT G 1 21 y_T_kindOf prog_6_method_6_code 2 (some .int) [.ref (E.2.2.1 k), .int l1] h (zPi post) := by
  unfold wp_T_kindOf at hw
  obtain ⟨hk_k, hw⟩ := hw
  refine Ct.of (by decide) (Nat.le_of_ble_eq_true rfl) ?_
  intro p e s m below meth c A C hr
  refine z_lv (lv2 := [some (.ref (E.2.2.1 k)), some (.int l1)]) rfl ?_
  refine z_aload_n C (i := 0) d_T_kindOf_0 rfl rfl ?_
  refine z_getK C (ci := 3) (j := 2) (F := cf_T) (xTm_l0 hk_k) (xTm_0 hk_k) rfl in_T (by decide) fl_T_18 rfl d_T_kindOf_1 ?_
  refine z_iload_n C (i := 1) d_T_kindOf_4 rfl rfl ?_
  refine z_callSNi ⟨xN_ok, hG.1⟩ zT_good C (t_R_at hG hw) wn_R_at nl_T_47 (by decide) (by decide) pl_R_at rfl rfl (Nat.le_of_ble_eq_true rfl) d_T_kindOf_5 (fun r1 h2 hw => ?_)
  exact z_iret C hr d_T_kindOf_8 hw
theorem d_P_kindGiven_0 : decode prog_2_method_19_code 0 = .ok (.iload_n 1, 1) := by decide +kernel
theorem d_P_kindGiven_1 : decode prog_2_method_19_code 1 = .ok (.bipush (7), 2) := by decide +kernel
theorem d_P_kindGiven_3 : decode prog_2_method_19_code 3 = .ok (.if_icmp .ne (12), 3) := by decide +kernel
theorem d_P_kindGiven_6 : decode prog_2_method_19_code 6 = .ok (.aload_n 0, 1) := by decide +kernel
theorem d_P_kindGiven_7 : decode prog_2_method_19_code 7 = .ok (.getfield 58, 3) := by decide +kernel
theorem d_P_kindGiven_10 : decode prog_2_method_19_code 10 = .ok (.iload_n 2, 1) := by decide +kernel
theorem d_P_kindGiven_11 : decode prog_2_method_19_code 11 = .ok (.invokevirtual 235, 3) := by decide +kernel
theorem d_P_kindGiven_14 : decode prog_2_method_19_code 14 = .ok (.ireturn, 1) := by decide +kernel
theorem d_P_kindGiven_15 : decode prog_2_method_19_code 15 = .ok (.iload_n 1, 1) := by decide +kernel
theorem d_P_kindGiven_16 : decode prog_2_method_19_code 16 = .ok (.invokestatic 159, 3) := by decide +kernel
theorem d_P_kindGiven_19 : decode prog_2_method_19_code 19 = .ok (.istore_n 3, 1) := by decide +kernel
theorem d_P_kindGiven_20 : decode prog_2_method_19_code 20 = .ok (.iload_n 3, 1) := by decide +kernel
theorem d_P_kindGiven_21 : decode prog_2_method_19_code 21 = .ok (.iconst 3, 1) := by decide +kernel
theorem d_P_kindGiven_22 : decode prog_2_method_19_code 22 = .ok (.if_icmp .eq (13), 3) := by decide +kernel
theorem d_P_kindGiven_25 : decode prog_2_method_19_code 25 = .ok (.iload_n 3, 1) := by decide +kernel
theorem d_P_kindGiven_26 : decode prog_2_method_19_code 26 = .ok (.iconst 2, 1) := by decide +kernel
theorem d_P_kindGiven_27 : decode prog_2_method_19_code 27 = .ok (.if_icmp .eq (8), 3) := by decide +kernel
theorem d_P_kindGiven_30 : decode prog_2_method_19_code 30 = .ok (.iload_n 3, 1) := by decide +kernel
theorem d_P_kindGiven_31 : decode prog_2_method_19_code 31 = .ok (.iconst 1, 1) := by decide +kernel
theorem d_P_kindGiven_32 : decode prog_2_method_19_code 32 = .ok (.if_icmp .ne (7), 3) := by decide +kernel
theorem d_P_kindGiven_35 : decode prog_2_method_19_code 35 = .ok (.iconst 1, 1) := by decide +kernel
theorem d_P_kindGiven_36 : decode prog_2_method_19_code 36 = .ok (.goto (4), 3) := by decide +kernel
theorem d_P_kindGiven_39 : decode prog_2_method_19_code 39 = .ok (.iconst 0, 1) := by decide +kernel
theorem d_P_kindGiven_40 : decode prog_2_method_19_code 40 = .ok (.istore 4, 2) := by decide +kernel
theorem d_P_kindGiven_42 : decode prog_2_method_19_code 42 = .ok (.iload 4, 2) := by decide +kernel
theorem d_P_kindGiven_44 : decode prog_2_method_19_code 44 = .ok (.ifCond .ne (9), 3) := by decide +kernel
theorem d_P_kindGiven_47 : decode prog_2_method_19_code 47 = .ok (.iload_n 1, 1) := by decide +kernel
theorem d_P_kindGiven_48 : decode prog_2_method_19_code 48 = .ok (.bipush (20), 2) := by decide +kernel
theorem d_P_kindGiven_50 : decode prog_2_method_19_code 50 = .ok (.if_icmp .ne (7), 3) := by decide +kernel
theorem d_P_kindGiven_53 : decode prog_2_method_19_code 53 = .ok (.iconst 1, 1) := by decide +kernel
theorem d_P_kindGiven_54 : decode prog_2_method_19_code 54 = .ok (.goto (4), 3) := by decide +kernel
theorem d_P_kindGiven_57 : decode prog_2_method_19_code 57 = .ok (.iconst 0, 1) := by decide +kernel
theorem d_P_kindGiven_58 : decode prog_2_method_19_code 58 = .ok (.ireturn, 1) := by decide +kernel
def b_P_kindGiven_58 (post : Int32 → zH → Prop) (s0 : Int32) (h : zH) : Prop := post s0 h
def b_P_kindGiven_53 (post : Int32 → zH → Prop) (h : zH) : Prop := b_P_kindGiven_58 post (1) h
def b_P_kindGiven_40 (post : Int32 → zH → Prop) (l1 : Int32) (s0 : Int32) (h : zH) : Prop := ((¬ s0 = 0 → b_P_kindGiven_53 post  h) ∧ (s0 = 0 → ((¬ l1 = 20 → b_P_kindGiven_58 post (0) h) ∧ (l1 = 20 → b_P_kindGiven_53 post  h))))
def b_P_kindGiven_35 (post : Int32 → zH → Prop) (l1 : Int32) (h : zH) : Prop := b_P_kindGiven_40 post (l1) (1) h
def wp_P_kindGiven (l1 : Int32) (l2 : Int32) (h : zH) (post : Int32 → zH → Prop) : Prop := ((¬ l1 = 7 → wp_R_strengthOf (l1) h (fun (r1 : Int32) (h2 : zH) => ((r1 = 3 → b_P_kindGiven_35 post (l1) h2) ∧ (¬ r1 = 3 → ((r1 = 2 → b_P_kindGiven_35 post (l1) h2) ∧ (¬ r1 = 2 → ((¬ r1 = 1 → b_P_kindGiven_40 post (l1) (0) h2) ∧ (r1 = 1 → b_P_kindGiven_35 post (l1) h2)))))))) ∧ (l1 = 7 → (xTm (h.2.2 29 8) ∧ wp_T_kindOf (h.2.2 29 8) (l2) h (fun (r4 : Int32) (h5 : zH) => post r4 h5))))
set_option maxRecDepth 100000 in
set_option maxHeartbeats 4000000 in
theorem w_P_kindGiven_58 {l : Launch} {E : zE} {G : (Nat → Prop) → State → Prop} {p : Program} {e : Env} {s : State} {m : MethodId} {args : Array Value} {below : List Frame} {meth : Method} {c : Code} {A : Nat → Prop} {post : Int32 → zH → Prop} (hG : xGG E G) (C : zCx p s m args meth c E G A 2 42 prog_2_method_19_code 5 cn_P) (hr : meth.sig.returnType = (some .int))  (s0 : Int32) (h : zH) (hw : b_P_kindGiven_58 post s0 h) : zGo p l e s m args below meth c E A 2 42 5 (zPi post) h 58 [none, none, none, none, none] [.int s0] := by
  unfold b_P_kindGiven_58 at hw
  exact z_iret C hr d_P_kindGiven_58 hw
set_option maxRecDepth 100000 in
set_option maxHeartbeats 4000000 in
theorem w_P_kindGiven_53 {l : Launch} {E : zE} {G : (Nat → Prop) → State → Prop} {p : Program} {e : Env} {s : State} {m : MethodId} {args : Array Value} {below : List Frame} {meth : Method} {c : Code} {A : Nat → Prop} {post : Int32 → zH → Prop} (hG : xGG E G) (C : zCx p s m args meth c E G A 2 42 prog_2_method_19_code 5 cn_P) (hr : meth.sig.returnType = (some .int))  (h : zH) (hw : b_P_kindGiven_53 post  h) : zGo p l e s m args below meth c E A 2 42 5 (zPi post) h 53 [none, none, none, none, none] [] := by
  unfold b_P_kindGiven_53 at hw
  refine z_iconst C (v := 1) d_P_kindGiven_53 (by decide) ?_
  refine z_goto C (tgt := 58) d_P_kindGiven_54 (by decide) ?_
  refine z_le (lv2 := [none, none, none, none, none]) (trivial) ?_
  exact w_P_kindGiven_58 hG C hr _ _ hw
set_option maxRecDepth 100000 in
set_option maxHeartbeats 4000000 in
theorem w_P_kindGiven_40 {l : Launch} {E : zE} {G : (Nat → Prop) → State → Prop} {p : Program} {e : Env} {s : State} {m : MethodId} {args : Array Value} {below : List Frame} {meth : Method} {c : Code} {A : Nat → Prop} {post : Int32 → zH → Prop} (hG : xGG E G) (C : zCx p s m args meth c E G A 2 42 prog_2_method_19_code 5 cn_P) (hr : meth.sig.returnType = (some .int))  (l1 : Int32) (s0 : Int32) (h : zH) (hw : b_P_kindGiven_40 post l1 s0 h) : zGo p l e s m args below meth c E A 2 42 5 (zPi post) h 40 [none, some (.int l1), none, none, none] [.int s0] := by
  unfold b_P_kindGiven_40 at hw
  refine z_istore C d_P_kindGiven_40 (by decide) rfl ?_
  refine z_iload C d_P_kindGiven_42 rfl ?_
  refine z_if_ne C (tgt := 53) d_P_kindGiven_44 (by decide) (fun q => ?_) (fun q => ?_)
  · replace hw := hw.1 q
    refine z_le (lv2 := [none, none, none, none, none]) (trivial) ?_
    exact w_P_kindGiven_53 hG C hr  _ hw
  · replace hw := hw.2 q
    refine z_iload_n C (i := 1) d_P_kindGiven_47 rfl rfl ?_
    refine z_bipush C (v := 20) d_P_kindGiven_48 (by decide) ?_
    refine z_icmp_ne C (tgt := 57) d_P_kindGiven_50 (by decide) (fun q => ?_) (fun q => ?_)
    · replace hw := hw.1 q
      refine z_iconst C (v := 0) d_P_kindGiven_57 (by decide) ?_
      refine z_le (lv2 := [none, none, none, none, none]) (trivial) ?_
      exact w_P_kindGiven_58 hG C hr _ _ hw
    · replace hw := hw.2 q
      refine z_le (lv2 := [none, none, none, none, none]) (trivial) ?_
      exact w_P_kindGiven_53 hG C hr  _ hw
set_option maxRecDepth 100000 in
set_option maxHeartbeats 4000000 in
theorem w_P_kindGiven_35 {l : Launch} {E : zE} {G : (Nat → Prop) → State → Prop} {p : Program} {e : Env} {s : State} {m : MethodId} {args : Array Value} {below : List Frame} {meth : Method} {c : Code} {A : Nat → Prop} {post : Int32 → zH → Prop} (hG : xGG E G) (C : zCx p s m args meth c E G A 2 42 prog_2_method_19_code 5 cn_P) (hr : meth.sig.returnType = (some .int))  (l1 : Int32) (h : zH) (hw : b_P_kindGiven_35 post l1 h) : zGo p l e s m args below meth c E A 2 42 5 (zPi post) h 35 [none, some (.int l1), none, none, none] [] := by
  unfold b_P_kindGiven_35 at hw
  refine z_iconst C (v := 1) d_P_kindGiven_35 (by decide) ?_
  refine z_goto C (tgt := 40) d_P_kindGiven_36 (by decide) ?_
  refine z_le (lv2 := [none, some (.int l1), none, none, none]) (⟨rfl, trivial⟩) ?_
  exact w_P_kindGiven_40 hG C hr _ _ _ hw
set_option maxRecDepth 100000 in
set_option maxHeartbeats 4000000 in
theorem t_P_kindGiven {l : Launch} {E : zE} {G : (Nat → Prop) → State → Prop} (hG : xGG E G) {l1 : Int32} {l2 : Int32} {h : zH} {post : Int32 → zH → Prop} (hw : wp_P_kindGiven l1 l2 h post) : Ct l xX E xcl xN zT G 2 42 y_P_kindGiven prog_2_method_19_code 5 (some .int) [.ref (E.2.2.1 29), .int l1, .int l2] h (zPi post) := by
  unfold wp_P_kindGiven at hw
  refine Ct.of (by decide) (Nat.le_of_ble_eq_true rfl) ?_
  intro p e s m below meth c A C hr
  refine z_lv (lv2 := [some (.ref (E.2.2.1 29)), some (.int l1), some (.int l2), none, none]) rfl ?_
  refine z_iload_n C (i := 1) d_P_kindGiven_0 rfl rfl ?_
  refine z_bipush C (v := 7) d_P_kindGiven_1 (by decide) ?_
  refine z_icmp_ne C (tgt := 15) d_P_kindGiven_3 (by decide) (fun q => ?_) (fun q => ?_)
  · replace hw := hw.1 q
    refine z_iload_n C (i := 1) d_P_kindGiven_15 rfl rfl ?_
    refine z_callSNi ⟨xN_ok, hG.1⟩ zT_good C (t_R_strengthOf hG hw) wn_R_strengthOf nl_P_159 (by decide) (by decide) pl_R_strengthOf rfl rfl (Nat.le_of_ble_eq_true rfl) d_P_kindGiven_16 (fun r1 h2 hw => ?_)
    refine z_istore_n C (i := 3) d_P_kindGiven_19 rfl (by decide) rfl ?_
    refine z_iload_n C (i := 3) d_P_kindGiven_20 rfl rfl ?_
    refine z_iconst C (v := 3) d_P_kindGiven_21 (by decide) ?_
    refine z_icmp_eq C (tgt := 35) d_P_kindGiven_22 (by decide) (fun q => ?_) (fun q => ?_)
    · replace hw := hw.1 q
      refine z_le (lv2 := [none, some (.int l1), none, none, none]) (⟨rfl, trivial⟩) ?_
      exact w_P_kindGiven_35 hG C hr _ _ hw
    · replace hw := hw.2 q
      refine z_iload_n C (i := 3) d_P_kindGiven_25 rfl rfl ?_
      refine z_iconst C (v := 2) d_P_kindGiven_26 (by decide) ?_
      refine z_icmp_eq C (tgt := 35) d_P_kindGiven_27 (by decide) (fun q => ?_) (fun q => ?_)
      · replace hw := hw.1 q
        refine z_le (lv2 := [none, some (.int l1), none, none, none]) (⟨rfl, trivial⟩) ?_
        exact w_P_kindGiven_35 hG C hr _ _ hw
      · replace hw := hw.2 q
        refine z_iload_n C (i := 3) d_P_kindGiven_30 rfl rfl ?_
        refine z_iconst C (v := 1) d_P_kindGiven_31 (by decide) ?_
        refine z_icmp_ne C (tgt := 39) d_P_kindGiven_32 (by decide) (fun q => ?_) (fun q => ?_)
        · replace hw := hw.1 q
          refine z_iconst C (v := 0) d_P_kindGiven_39 (by decide) ?_
          refine z_le (lv2 := [none, some (.int l1), none, none, none]) (⟨rfl, trivial⟩) ?_
          exact w_P_kindGiven_40 hG C hr _ _ _ hw
        · replace hw := hw.2 q
          refine z_le (lv2 := [none, some (.int l1), none, none, none]) (⟨rfl, trivial⟩) ?_
          exact w_P_kindGiven_35 hG C hr _ _ hw
  · replace hw := hw.2 q
    refine z_aload_n C (i := 0) d_P_kindGiven_6 rfl rfl ?_
    refine z_getR C (ci := 4) (j := 8) (F := cf_P) (by decide) rfl rfl in_P (by decide) fl_P_58 rfl d_P_kindGiven_7 ?_
    refine z_iload_n C (i := 2) d_P_kindGiven_10 rfl rfl ?_
    obtain ⟨hk3, hw⟩ := hw
    refine z_callVNi ⟨xN_ok, hG.1⟩ zT_good C (t_T_kindOf hG hw) wn_T_kindOf nl_P_235 (xTm_l0 hk3) (xTm_0 hk3) rfl (by decide) (by decide) pl_T_kindOf rfl rfl (Nat.le_of_ble_eq_true rfl) d_P_kindGiven_11 (fun r4 h5 hw => ?_)
    exact z_iret C hr d_P_kindGiven_14 hw
theorem d_P_kindsFit_0 : decode prog_2_method_18_code 0 = .ok (.aload_n 0, 1) := by decide +kernel
theorem d_P_kindsFit_1 : decode prog_2_method_18_code 1 = .ok (.getfield 58, 3) := by decide +kernel
theorem d_P_kindsFit_4 : decode prog_2_method_18_code 4 = .ok (.iload_n 2, 1) := by decide +kernel
theorem d_P_kindsFit_5 : decode prog_2_method_18_code 5 = .ok (.invokevirtual 235, 3) := by decide +kernel
theorem d_P_kindsFit_8 : decode prog_2_method_18_code 8 = .ok (.aload_n 0, 1) := by decide +kernel
theorem d_P_kindsFit_9 : decode prog_2_method_18_code 9 = .ok (.getfield 58, 3) := by decide +kernel
theorem d_P_kindsFit_12 : decode prog_2_method_18_code 12 = .ok (.iload_n 3, 1) := by decide +kernel
theorem d_P_kindsFit_13 : decode prog_2_method_18_code 13 = .ok (.invokevirtual 235, 3) := by decide +kernel
theorem d_P_kindsFit_16 : decode prog_2_method_18_code 16 = .ok (.if_icmp .eq (5), 3) := by decide +kernel
theorem d_P_kindsFit_19 : decode prog_2_method_18_code 19 = .ok (.iconst 0, 1) := by decide +kernel
theorem d_P_kindsFit_20 : decode prog_2_method_18_code 20 = .ok (.ireturn, 1) := by decide +kernel
theorem d_P_kindsFit_21 : decode prog_2_method_18_code 21 = .ok (.iload_n 1, 1) := by decide +kernel
theorem d_P_kindsFit_22 : decode prog_2_method_18_code 22 = .ok (.tableswitch (117) (7) (22) #[80, 117, 117, 117, 117, 117, 117, 117, 117, 117, 117, 78, 78, 99, 99, 99], 78) := by decide +kernel
theorem d_P_kindsFit_100 : decode prog_2_method_18_code 100 = .ok (.iconst 1, 1) := by decide +kernel
theorem d_P_kindsFit_101 : decode prog_2_method_18_code 101 = .ok (.ireturn, 1) := by decide +kernel
theorem d_P_kindsFit_102 : decode prog_2_method_18_code 102 = .ok (.aload_n 0, 1) := by decide +kernel
theorem d_P_kindsFit_103 : decode prog_2_method_18_code 103 = .ok (.getfield 58, 3) := by decide +kernel
theorem d_P_kindsFit_106 : decode prog_2_method_18_code 106 = .ok (.iload 4, 2) := by decide +kernel
theorem d_P_kindsFit_108 : decode prog_2_method_18_code 108 = .ok (.invokevirtual 235, 3) := by decide +kernel
theorem d_P_kindsFit_111 : decode prog_2_method_18_code 111 = .ok (.iconst 1, 1) := by decide +kernel
theorem d_P_kindsFit_112 : decode prog_2_method_18_code 112 = .ok (.if_icmp .ne (7), 3) := by decide +kernel
theorem d_P_kindsFit_115 : decode prog_2_method_18_code 115 = .ok (.iconst 1, 1) := by decide +kernel
theorem d_P_kindsFit_116 : decode prog_2_method_18_code 116 = .ok (.goto (4), 3) := by decide +kernel
theorem d_P_kindsFit_119 : decode prog_2_method_18_code 119 = .ok (.iconst 0, 1) := by decide +kernel
theorem d_P_kindsFit_120 : decode prog_2_method_18_code 120 = .ok (.ireturn, 1) := by decide +kernel
theorem d_P_kindsFit_121 : decode prog_2_method_18_code 121 = .ok (.aload_n 0, 1) := by decide +kernel
theorem d_P_kindsFit_122 : decode prog_2_method_18_code 122 = .ok (.getfield 58, 3) := by decide +kernel
theorem d_P_kindsFit_125 : decode prog_2_method_18_code 125 = .ok (.iload_n 3, 1) := by decide +kernel
theorem d_P_kindsFit_126 : decode prog_2_method_18_code 126 = .ok (.invokevirtual 235, 3) := by decide +kernel
theorem d_P_kindsFit_129 : decode prog_2_method_18_code 129 = .ok (.iconst 1, 1) := by decide +kernel
theorem d_P_kindsFit_130 : decode prog_2_method_18_code 130 = .ok (.if_icmp .ne (7), 3) := by decide +kernel
theorem d_P_kindsFit_133 : decode prog_2_method_18_code 133 = .ok (.iconst 1, 1) := by decide +kernel
theorem d_P_kindsFit_134 : decode prog_2_method_18_code 134 = .ok (.goto (4), 3) := by decide +kernel
theorem d_P_kindsFit_137 : decode prog_2_method_18_code 137 = .ok (.iconst 0, 1) := by decide +kernel
theorem d_P_kindsFit_138 : decode prog_2_method_18_code 138 = .ok (.ireturn, 1) := by decide +kernel
theorem d_P_kindsFit_139 : decode prog_2_method_18_code 139 = .ok (.aload_n 0, 1) := by decide +kernel
theorem d_P_kindsFit_140 : decode prog_2_method_18_code 140 = .ok (.getfield 58, 3) := by decide +kernel
theorem d_P_kindsFit_143 : decode prog_2_method_18_code 143 = .ok (.iload_n 3, 1) := by decide +kernel
theorem d_P_kindsFit_144 : decode prog_2_method_18_code 144 = .ok (.invokevirtual 235, 3) := by decide +kernel
theorem d_P_kindsFit_147 : decode prog_2_method_18_code 147 = .ok (.ifCond .ne (7), 3) := by decide +kernel
theorem d_P_kindsFit_150 : decode prog_2_method_18_code 150 = .ok (.iconst 1, 1) := by decide +kernel
theorem d_P_kindsFit_151 : decode prog_2_method_18_code 151 = .ok (.goto (4), 3) := by decide +kernel
theorem d_P_kindsFit_154 : decode prog_2_method_18_code 154 = .ok (.iconst 0, 1) := by decide +kernel
theorem d_P_kindsFit_155 : decode prog_2_method_18_code 155 = .ok (.ireturn, 1) := by decide +kernel
def b_P_kindsFit_100 (post : Int32 → zH → Prop) (h : zH) : Prop := post 1 h
def b_P_kindsFit_120 (post : Int32 → zH → Prop) (s0 : Int32) (h : zH) : Prop := (narrow .boolean (.int s0) = .int s0 ∧ post s0 h)
def b_P_kindsFit_138 (post : Int32 → zH → Prop) (s0 : Int32) (h : zH) : Prop := (narrow .boolean (.int s0) = .int s0 ∧ post s0 h)
def b_P_kindsFit_121 (post : Int32 → zH → Prop) (l3 : Int32) (h : zH) : Prop := (xTm (h.2.2 29 8) ∧ wp_T_kindOf (h.2.2 29 8) (l3) h (fun (r2 : Int32) (h3 : zH) => ((¬ r2 = 1 → b_P_kindsFit_138 post (0) h3) ∧ (r2 = 1 → b_P_kindsFit_138 post (1) h3))))
def b_P_kindsFit_155 (post : Int32 → zH → Prop) (s0 : Int32) (h : zH) : Prop := (narrow .boolean (.int s0) = .int s0 ∧ post s0 h)
def b_P_kindsFit_139 (post : Int32 → zH → Prop) (l3 : Int32) (h : zH) : Prop := (xTm (h.2.2 29 8) ∧ wp_T_kindOf (h.2.2 29 8) (l3) h (fun (r5 : Int32) (h6 : zH) => ((¬ r5 = 0 → b_P_kindsFit_155 post (0) h6) ∧ (r5 = 0 → b_P_kindsFit_155 post (1) h6))))
def wp_P_kindsFit (l1 : Int32) (l2 : Int32) (l3 : Int32) (l4 : Int32) (h : zH) (post : Int32 → zH → Prop) : Prop := (xTm (h.2.2 29 8) ∧ wp_T_kindOf (h.2.2 29 8) (l2) h (fun (r8 : Int32) (h9 : zH) => (xTm (h9.2.2 29 8) ∧ wp_T_kindOf (h9.2.2 29 8) (l3) h9 (fun (r11 : Int32) (h12 : zH) => ((r8 = r11 → ((l1 = 7 → (xTm (h12.2.2 29 8) ∧ wp_T_kindOf (h12.2.2 29 8) (l4) h12 (fun (r14 : Int32) (h15 : zH) => ((¬ r14 = 1 → b_P_kindsFit_120 post (0) h15) ∧ (r14 = 1 → b_P_kindsFit_120 post (1) h15))))) ∧ (¬ l1 = 7 → ((l1 = 8 → b_P_kindsFit_139 post (l3) h12) ∧ (¬ l1 = 8 → ((l1 = 9 → b_P_kindsFit_139 post (l3) h12) ∧ (¬ l1 = 9 → ((l1 = 10 → b_P_kindsFit_139 post (l3) h12) ∧ (¬ l1 = 10 → ((l1 = 11 → b_P_kindsFit_139 post (l3) h12) ∧ (¬ l1 = 11 → ((l1 = 12 → b_P_kindsFit_139 post (l3) h12) ∧ (¬ l1 = 12 → ((l1 = 13 → b_P_kindsFit_139 post (l3) h12) ∧ (¬ l1 = 13 → ((l1 = 14 → b_P_kindsFit_139 post (l3) h12) ∧ (¬ l1 = 14 → ((l1 = 15 → b_P_kindsFit_139 post (l3) h12) ∧ (¬ l1 = 15 → ((l1 = 16 → b_P_kindsFit_139 post (l3) h12) ∧ (¬ l1 = 16 → ((l1 = 17 → b_P_kindsFit_139 post (l3) h12) ∧ (¬ l1 = 17 → ((l1 = 18 → b_P_kindsFit_100 post  h12) ∧ (¬ l1 = 18 → ((l1 = 19 → b_P_kindsFit_100 post  h12) ∧ (¬ l1 = 19 → ((l1 = 20 → b_P_kindsFit_121 post (l3) h12) ∧ (¬ l1 = 20 → ((l1 = 21 → b_P_kindsFit_121 post (l3) h12) ∧ (¬ l1 = 21 → ((l1 = 22 → b_P_kindsFit_121 post (l3) h12) ∧ (¬ l1 = 22 → b_P_kindsFit_139 post (l3) h12))))))))))))))))))))))))))))))))) ∧ (¬ r8 = r11 → post 0 h12))))))
set_option maxRecDepth 100000 in
set_option maxHeartbeats 4000000 in
theorem w_P_kindsFit_100 {l : Launch} {E : zE} {G : (Nat → Prop) → State → Prop} {p : Program} {e : Env} {s : State} {m : MethodId} {args : Array Value} {below : List Frame} {meth : Method} {c : Code} {A : Nat → Prop} {post : Int32 → zH → Prop} (hG : xGG E G) (C : zCx p s m args meth c E G A 2 42 prog_2_method_18_code 5 cn_P) (hr : meth.sig.returnType = (some .boolean))  (h : zH) (hw : b_P_kindsFit_100 post  h) : zGo p l e s m args below meth c E A 2 42 5 (zPi post) h 100 [none, none, none, none, none] [] := by
  unfold b_P_kindsFit_100 at hw
  refine z_iconst C (v := 1) d_P_kindsFit_100 (by decide) ?_
  exact z_zret C hr rfl d_P_kindsFit_101 hw
set_option maxRecDepth 100000 in
set_option maxHeartbeats 4000000 in
theorem w_P_kindsFit_120 {l : Launch} {E : zE} {G : (Nat → Prop) → State → Prop} {p : Program} {e : Env} {s : State} {m : MethodId} {args : Array Value} {below : List Frame} {meth : Method} {c : Code} {A : Nat → Prop} {post : Int32 → zH → Prop} (hG : xGG E G) (C : zCx p s m args meth c E G A 2 42 prog_2_method_18_code 5 cn_P) (hr : meth.sig.returnType = (some .boolean))  (s0 : Int32) (h : zH) (hw : b_P_kindsFit_120 post s0 h) : zGo p l e s m args below meth c E A 2 42 5 (zPi post) h 120 [none, none, none, none, none] [.int s0] := by
  unfold b_P_kindsFit_120 at hw
  exact z_zret C hr hw.1 d_P_kindsFit_120 hw.2
set_option maxRecDepth 100000 in
set_option maxHeartbeats 4000000 in
theorem w_P_kindsFit_138 {l : Launch} {E : zE} {G : (Nat → Prop) → State → Prop} {p : Program} {e : Env} {s : State} {m : MethodId} {args : Array Value} {below : List Frame} {meth : Method} {c : Code} {A : Nat → Prop} {post : Int32 → zH → Prop} (hG : xGG E G) (C : zCx p s m args meth c E G A 2 42 prog_2_method_18_code 5 cn_P) (hr : meth.sig.returnType = (some .boolean))  (s0 : Int32) (h : zH) (hw : b_P_kindsFit_138 post s0 h) : zGo p l e s m args below meth c E A 2 42 5 (zPi post) h 138 [none, none, none, none, none] [.int s0] := by
  unfold b_P_kindsFit_138 at hw
  exact z_zret C hr hw.1 d_P_kindsFit_138 hw.2
set_option maxRecDepth 100000 in
set_option maxHeartbeats 4000000 in
theorem w_P_kindsFit_121 {l : Launch} {E : zE} {G : (Nat → Prop) → State → Prop} {p : Program} {e : Env} {s : State} {m : MethodId} {args : Array Value} {below : List Frame} {meth : Method} {c : Code} {A : Nat → Prop} {post : Int32 → zH → Prop} (hG : xGG E G) (C : zCx p s m args meth c E G A 2 42 prog_2_method_18_code 5 cn_P) (hr : meth.sig.returnType = (some .boolean))  (l3 : Int32) (h : zH) (hw : b_P_kindsFit_121 post l3 h) : zGo p l e s m args below meth c E A 2 42 5 (zPi post) h 121 [some (.ref (E.2.2.1 29)), none, none, some (.int l3), none] [] := by
  unfold b_P_kindsFit_121 at hw
  refine z_aload_n C (i := 0) d_P_kindsFit_121 rfl rfl ?_
  refine z_getR C (ci := 4) (j := 8) (F := cf_P) (by decide) rfl rfl in_P (by decide) fl_P_58 rfl d_P_kindsFit_122 ?_
  refine z_iload_n C (i := 3) d_P_kindsFit_125 rfl rfl ?_
  obtain ⟨hk1, hw⟩ := hw
  refine z_callVNi ⟨xN_ok, hG.1⟩ zT_good C (t_T_kindOf hG hw) wn_T_kindOf nl_P_235 (xTm_l0 hk1) (xTm_0 hk1) rfl (by decide) (by decide) pl_T_kindOf rfl rfl (Nat.le_of_ble_eq_true rfl) d_P_kindsFit_126 (fun r2 h3 hw => ?_)
  refine z_iconst C (v := 1) d_P_kindsFit_129 (by decide) ?_
  refine z_icmp_ne C (tgt := 137) d_P_kindsFit_130 (by decide) (fun q => ?_) (fun q => ?_)
  · replace hw := hw.1 q
    refine z_iconst C (v := 0) d_P_kindsFit_137 (by decide) ?_
    refine z_le (lv2 := [none, none, none, none, none]) (trivial) ?_
    exact w_P_kindsFit_138 hG C hr _ _ hw
  · replace hw := hw.2 q
    refine z_iconst C (v := 1) d_P_kindsFit_133 (by decide) ?_
    refine z_goto C (tgt := 138) d_P_kindsFit_134 (by decide) ?_
    refine z_le (lv2 := [none, none, none, none, none]) (trivial) ?_
    exact w_P_kindsFit_138 hG C hr _ _ hw
set_option maxRecDepth 100000 in
set_option maxHeartbeats 4000000 in
theorem w_P_kindsFit_155 {l : Launch} {E : zE} {G : (Nat → Prop) → State → Prop} {p : Program} {e : Env} {s : State} {m : MethodId} {args : Array Value} {below : List Frame} {meth : Method} {c : Code} {A : Nat → Prop} {post : Int32 → zH → Prop} (hG : xGG E G) (C : zCx p s m args meth c E G A 2 42 prog_2_method_18_code 5 cn_P) (hr : meth.sig.returnType = (some .boolean))  (s0 : Int32) (h : zH) (hw : b_P_kindsFit_155 post s0 h) : zGo p l e s m args below meth c E A 2 42 5 (zPi post) h 155 [none, none, none, none, none] [.int s0] := by
  unfold b_P_kindsFit_155 at hw
  exact z_zret C hr hw.1 d_P_kindsFit_155 hw.2
set_option maxRecDepth 100000 in
set_option maxHeartbeats 4000000 in
theorem w_P_kindsFit_139 {l : Launch} {E : zE} {G : (Nat → Prop) → State → Prop} {p : Program} {e : Env} {s : State} {m : MethodId} {args : Array Value} {below : List Frame} {meth : Method} {c : Code} {A : Nat → Prop} {post : Int32 → zH → Prop} (hG : xGG E G) (C : zCx p s m args meth c E G A 2 42 prog_2_method_18_code 5 cn_P) (hr : meth.sig.returnType = (some .boolean))  (l3 : Int32) (h : zH) (hw : b_P_kindsFit_139 post l3 h) : zGo p l e s m args below meth c E A 2 42 5 (zPi post) h 139 [some (.ref (E.2.2.1 29)), none, none, some (.int l3), none] [] := by
  unfold b_P_kindsFit_139 at hw
  refine z_aload_n C (i := 0) d_P_kindsFit_139 rfl rfl ?_
  refine z_getR C (ci := 4) (j := 8) (F := cf_P) (by decide) rfl rfl in_P (by decide) fl_P_58 rfl d_P_kindsFit_140 ?_
  refine z_iload_n C (i := 3) d_P_kindsFit_143 rfl rfl ?_
  obtain ⟨hk4, hw⟩ := hw
  refine z_callVNi ⟨xN_ok, hG.1⟩ zT_good C (t_T_kindOf hG hw) wn_T_kindOf nl_P_235 (xTm_l0 hk4) (xTm_0 hk4) rfl (by decide) (by decide) pl_T_kindOf rfl rfl (Nat.le_of_ble_eq_true rfl) d_P_kindsFit_144 (fun r5 h6 hw => ?_)
  refine z_if_ne C (tgt := 154) d_P_kindsFit_147 (by decide) (fun q => ?_) (fun q => ?_)
  · replace hw := hw.1 q
    refine z_iconst C (v := 0) d_P_kindsFit_154 (by decide) ?_
    refine z_le (lv2 := [none, none, none, none, none]) (trivial) ?_
    exact w_P_kindsFit_155 hG C hr _ _ hw
  · replace hw := hw.2 q
    refine z_iconst C (v := 1) d_P_kindsFit_150 (by decide) ?_
    refine z_goto C (tgt := 155) d_P_kindsFit_151 (by decide) ?_
    refine z_le (lv2 := [none, none, none, none, none]) (trivial) ?_
    exact w_P_kindsFit_155 hG C hr _ _ hw
set_option maxRecDepth 100000 in
set_option maxHeartbeats 4000000 in
theorem t_P_kindsFit {l : Launch} {E : zE} {G : (Nat → Prop) → State → Prop} (hG : xGG E G) {l1 : Int32} {l2 : Int32} {l3 : Int32} {l4 : Int32} {h : zH} {post : Int32 → zH → Prop} (hw : wp_P_kindsFit l1 l2 l3 l4 h post) : Ct l xX E xcl xN zT G 2 42 y_P_kindsFit prog_2_method_18_code 5 (some .boolean) [.ref (E.2.2.1 29), .int l1, .int l2, .int l3, .int l4] h (zPi post) := by
  unfold wp_P_kindsFit at hw
  refine Ct.of (by decide) (Nat.le_of_ble_eq_true rfl) ?_
  intro p e s m below meth c A C hr
  refine z_lv (lv2 := [some (.ref (E.2.2.1 29)), some (.int l1), some (.int l2), some (.int l3), some (.int l4)]) rfl ?_
  refine z_aload_n C (i := 0) d_P_kindsFit_0 rfl rfl ?_
  refine z_getR C (ci := 4) (j := 8) (F := cf_P) (by decide) rfl rfl in_P (by decide) fl_P_58 rfl d_P_kindsFit_1 ?_
  refine z_iload_n C (i := 2) d_P_kindsFit_4 rfl rfl ?_
  obtain ⟨hk7, hw⟩ := hw
  refine z_callVNi ⟨xN_ok, hG.1⟩ zT_good C (t_T_kindOf hG hw) wn_T_kindOf nl_P_235 (xTm_l0 hk7) (xTm_0 hk7) rfl (by decide) (by decide) pl_T_kindOf rfl rfl (Nat.le_of_ble_eq_true rfl) d_P_kindsFit_5 (fun r8 h9 hw => ?_)
  refine z_aload_n C (i := 0) d_P_kindsFit_8 rfl rfl ?_
  refine z_getR C (ci := 4) (j := 8) (F := cf_P) (by decide) rfl rfl in_P (by decide) fl_P_58 rfl d_P_kindsFit_9 ?_
  refine z_iload_n C (i := 3) d_P_kindsFit_12 rfl rfl ?_
  obtain ⟨hk10, hw⟩ := hw
  refine z_callVNi ⟨xN_ok, hG.1⟩ zT_good C (t_T_kindOf hG hw) wn_T_kindOf nl_P_235 (xTm_l0 hk10) (xTm_0 hk10) rfl (by decide) (by decide) pl_T_kindOf rfl rfl (Nat.le_of_ble_eq_true rfl) d_P_kindsFit_13 (fun r11 h12 hw => ?_)
  refine z_icmp_eq C (tgt := 21) d_P_kindsFit_16 (by decide) (fun q => ?_) (fun q => ?_)
  · replace hw := hw.1 q
    refine z_iload_n C (i := 1) d_P_kindsFit_21 rfl rfl ?_
    refine z_tcase C (off := 80) (tgt := 102) (7 : Int32) d_P_kindsFit_22 (by decide) (by decide) rfl (by decide) (fun q0 => ?_) (fun q0 => ?_)
    · replace hw := hw.1 q0
      refine z_aload_n C (i := 0) d_P_kindsFit_102 rfl rfl ?_
      refine z_getR C (ci := 4) (j := 8) (F := cf_P) (by decide) rfl rfl in_P (by decide) fl_P_58 rfl d_P_kindsFit_103 ?_
      refine z_iload C d_P_kindsFit_106 rfl ?_
      obtain ⟨hk13, hw⟩ := hw
      refine z_callVNi ⟨xN_ok, hG.1⟩ zT_good C (t_T_kindOf hG hw) wn_T_kindOf nl_P_235 (xTm_l0 hk13) (xTm_0 hk13) rfl (by decide) (by decide) pl_T_kindOf rfl rfl (Nat.le_of_ble_eq_true rfl) d_P_kindsFit_108 (fun r14 h15 hw => ?_)
      refine z_iconst C (v := 1) d_P_kindsFit_111 (by decide) ?_
      refine z_icmp_ne C (tgt := 119) d_P_kindsFit_112 (by decide) (fun q => ?_) (fun q => ?_)
      · replace hw := hw.1 q
        refine z_iconst C (v := 0) d_P_kindsFit_119 (by decide) ?_
        refine z_le (lv2 := [none, none, none, none, none]) (trivial) ?_
        exact w_P_kindsFit_120 hG C hr _ _ hw
      · replace hw := hw.2 q
        refine z_iconst C (v := 1) d_P_kindsFit_115 (by decide) ?_
        refine z_goto C (tgt := 120) d_P_kindsFit_116 (by decide) ?_
        refine z_le (lv2 := [none, none, none, none, none]) (trivial) ?_
        exact w_P_kindsFit_120 hG C hr _ _ hw
    replace hw := hw.2 q0
    refine z_tcase C (off := 117) (tgt := 139) (8 : Int32) d_P_kindsFit_22 (by decide) (by decide) rfl (by decide) (fun q1 => ?_) (fun q1 => ?_)
    · replace hw := hw.1 q1
      refine z_le (lv2 := [some (.ref (E.2.2.1 29)), none, none, some (.int l3), none]) (⟨rfl, ⟨rfl, trivial⟩⟩) ?_
      exact w_P_kindsFit_139 hG C hr _ _ hw
    replace hw := hw.2 q1
    refine z_tcase C (off := 117) (tgt := 139) (9 : Int32) d_P_kindsFit_22 (by decide) (by decide) rfl (by decide) (fun q2 => ?_) (fun q2 => ?_)
    · replace hw := hw.1 q2
      refine z_le (lv2 := [some (.ref (E.2.2.1 29)), none, none, some (.int l3), none]) (⟨rfl, ⟨rfl, trivial⟩⟩) ?_
      exact w_P_kindsFit_139 hG C hr _ _ hw
    replace hw := hw.2 q2
    refine z_tcase C (off := 117) (tgt := 139) (10 : Int32) d_P_kindsFit_22 (by decide) (by decide) rfl (by decide) (fun q3 => ?_) (fun q3 => ?_)
    · replace hw := hw.1 q3
      refine z_le (lv2 := [some (.ref (E.2.2.1 29)), none, none, some (.int l3), none]) (⟨rfl, ⟨rfl, trivial⟩⟩) ?_
      exact w_P_kindsFit_139 hG C hr _ _ hw
    replace hw := hw.2 q3
    refine z_tcase C (off := 117) (tgt := 139) (11 : Int32) d_P_kindsFit_22 (by decide) (by decide) rfl (by decide) (fun q4 => ?_) (fun q4 => ?_)
    · replace hw := hw.1 q4
      refine z_le (lv2 := [some (.ref (E.2.2.1 29)), none, none, some (.int l3), none]) (⟨rfl, ⟨rfl, trivial⟩⟩) ?_
      exact w_P_kindsFit_139 hG C hr _ _ hw
    replace hw := hw.2 q4
    refine z_tcase C (off := 117) (tgt := 139) (12 : Int32) d_P_kindsFit_22 (by decide) (by decide) rfl (by decide) (fun q5 => ?_) (fun q5 => ?_)
    · replace hw := hw.1 q5
      refine z_le (lv2 := [some (.ref (E.2.2.1 29)), none, none, some (.int l3), none]) (⟨rfl, ⟨rfl, trivial⟩⟩) ?_
      exact w_P_kindsFit_139 hG C hr _ _ hw
    replace hw := hw.2 q5
    refine z_tcase C (off := 117) (tgt := 139) (13 : Int32) d_P_kindsFit_22 (by decide) (by decide) rfl (by decide) (fun q6 => ?_) (fun q6 => ?_)
    · replace hw := hw.1 q6
      refine z_le (lv2 := [some (.ref (E.2.2.1 29)), none, none, some (.int l3), none]) (⟨rfl, ⟨rfl, trivial⟩⟩) ?_
      exact w_P_kindsFit_139 hG C hr _ _ hw
    replace hw := hw.2 q6
    refine z_tcase C (off := 117) (tgt := 139) (14 : Int32) d_P_kindsFit_22 (by decide) (by decide) rfl (by decide) (fun q7 => ?_) (fun q7 => ?_)
    · replace hw := hw.1 q7
      refine z_le (lv2 := [some (.ref (E.2.2.1 29)), none, none, some (.int l3), none]) (⟨rfl, ⟨rfl, trivial⟩⟩) ?_
      exact w_P_kindsFit_139 hG C hr _ _ hw
    replace hw := hw.2 q7
    refine z_tcase C (off := 117) (tgt := 139) (15 : Int32) d_P_kindsFit_22 (by decide) (by decide) rfl (by decide) (fun q8 => ?_) (fun q8 => ?_)
    · replace hw := hw.1 q8
      refine z_le (lv2 := [some (.ref (E.2.2.1 29)), none, none, some (.int l3), none]) (⟨rfl, ⟨rfl, trivial⟩⟩) ?_
      exact w_P_kindsFit_139 hG C hr _ _ hw
    replace hw := hw.2 q8
    refine z_tcase C (off := 117) (tgt := 139) (16 : Int32) d_P_kindsFit_22 (by decide) (by decide) rfl (by decide) (fun q9 => ?_) (fun q9 => ?_)
    · replace hw := hw.1 q9
      refine z_le (lv2 := [some (.ref (E.2.2.1 29)), none, none, some (.int l3), none]) (⟨rfl, ⟨rfl, trivial⟩⟩) ?_
      exact w_P_kindsFit_139 hG C hr _ _ hw
    replace hw := hw.2 q9
    refine z_tcase C (off := 117) (tgt := 139) (17 : Int32) d_P_kindsFit_22 (by decide) (by decide) rfl (by decide) (fun q10 => ?_) (fun q10 => ?_)
    · replace hw := hw.1 q10
      refine z_le (lv2 := [some (.ref (E.2.2.1 29)), none, none, some (.int l3), none]) (⟨rfl, ⟨rfl, trivial⟩⟩) ?_
      exact w_P_kindsFit_139 hG C hr _ _ hw
    replace hw := hw.2 q10
    refine z_tcase C (off := 78) (tgt := 100) (18 : Int32) d_P_kindsFit_22 (by decide) (by decide) rfl (by decide) (fun q11 => ?_) (fun q11 => ?_)
    · replace hw := hw.1 q11
      refine z_le (lv2 := [none, none, none, none, none]) (trivial) ?_
      exact w_P_kindsFit_100 hG C hr  _ hw
    replace hw := hw.2 q11
    refine z_tcase C (off := 78) (tgt := 100) (19 : Int32) d_P_kindsFit_22 (by decide) (by decide) rfl (by decide) (fun q12 => ?_) (fun q12 => ?_)
    · replace hw := hw.1 q12
      refine z_le (lv2 := [none, none, none, none, none]) (trivial) ?_
      exact w_P_kindsFit_100 hG C hr  _ hw
    replace hw := hw.2 q12
    refine z_tcase C (off := 99) (tgt := 121) (20 : Int32) d_P_kindsFit_22 (by decide) (by decide) rfl (by decide) (fun q13 => ?_) (fun q13 => ?_)
    · replace hw := hw.1 q13
      refine z_le (lv2 := [some (.ref (E.2.2.1 29)), none, none, some (.int l3), none]) (⟨rfl, ⟨rfl, trivial⟩⟩) ?_
      exact w_P_kindsFit_121 hG C hr _ _ hw
    replace hw := hw.2 q13
    refine z_tcase C (off := 99) (tgt := 121) (21 : Int32) d_P_kindsFit_22 (by decide) (by decide) rfl (by decide) (fun q14 => ?_) (fun q14 => ?_)
    · replace hw := hw.1 q14
      refine z_le (lv2 := [some (.ref (E.2.2.1 29)), none, none, some (.int l3), none]) (⟨rfl, ⟨rfl, trivial⟩⟩) ?_
      exact w_P_kindsFit_121 hG C hr _ _ hw
    replace hw := hw.2 q14
    refine z_tcase C (off := 99) (tgt := 121) (22 : Int32) d_P_kindsFit_22 (by decide) (by decide) rfl (by decide) (fun q15 => ?_) (fun q15 => ?_)
    · replace hw := hw.1 q15
      refine z_le (lv2 := [some (.ref (E.2.2.1 29)), none, none, some (.int l3), none]) (⟨rfl, ⟨rfl, trivial⟩⟩) ?_
      exact w_P_kindsFit_121 hG C hr _ _ hw
    replace hw := hw.2 q15
    refine z_tabOut C (tgt := 139) d_P_kindsFit_22 (by have e0 := lv_neT q0 (a := 7) rfl; have e1 := lv_neT q1 (a := 8) rfl; have e2 := lv_neT q2 (a := 9) rfl; have e3 := lv_neT q3 (a := 10) rfl; have e4 := lv_neT q4 (a := 11) rfl; have e5 := lv_neT q5 (a := 12) rfl; have e6 := lv_neT q6 (a := 13) rfl; have e7 := lv_neT q7 (a := 14) rfl; have e8 := lv_neT q8 (a := 15) rfl; have e9 := lv_neT q9 (a := 16) rfl; have e10 := lv_neT q10 (a := 17) rfl; have e11 := lv_neT q11 (a := 18) rfl; have e12 := lv_neT q12 (a := 19) rfl; have e13 := lv_neT q13 (a := 20) rfl; have e14 := lv_neT q14 (a := 21) rfl; have e15 := lv_neT q15 (a := 22) rfl; omega) (by decide) ?_
    refine z_le (lv2 := [some (.ref (E.2.2.1 29)), none, none, some (.int l3), none]) (⟨rfl, ⟨rfl, trivial⟩⟩) ?_
    exact w_P_kindsFit_139 hG C hr _ _ hw
  · replace hw := hw.2 q
    refine z_iconst C (v := 0) d_P_kindsFit_19 (by decide) ?_
    exact z_zret C hr rfl d_P_kindsFit_20 hw
theorem d_P_popLoose_0 : decode prog_2_method_10_code 0 = .ok (.aload_n 0, 1) := by decide +kernel
theorem d_P_popLoose_1 : decode prog_2_method_10_code 1 = .ok (.getfield 22, 3) := by decide +kernel
theorem d_P_popLoose_4 : decode prog_2_method_10_code 4 = .ok (.ifCond .le (13), 3) := by decide +kernel
theorem d_P_popLoose_7 : decode prog_2_method_10_code 7 = .ok (.aload_n 0, 1) := by decide +kernel
theorem d_P_popLoose_8 : decode prog_2_method_10_code 8 = .ok (.dup, 1) := by decide +kernel
theorem d_P_popLoose_9 : decode prog_2_method_10_code 9 = .ok (.getfield 22, 3) := by decide +kernel
theorem d_P_popLoose_12 : decode prog_2_method_10_code 12 = .ok (.iconst 1, 1) := by decide +kernel
theorem d_P_popLoose_13 : decode prog_2_method_10_code 13 = .ok (.isub, 1) := by decide +kernel
theorem d_P_popLoose_14 : decode prog_2_method_10_code 14 = .ok (.putfield 22, 3) := by decide +kernel
theorem d_P_popLoose_17 : decode prog_2_method_10_code 17 = .ok (.aload_n 0, 1) := by decide +kernel
theorem d_P_popLoose_18 : decode prog_2_method_10_code 18 = .ok (.getfield 18, 3) := by decide +kernel
theorem d_P_popLoose_21 : decode prog_2_method_10_code 21 = .ok (.aload_n 0, 1) := by decide +kernel
theorem d_P_popLoose_22 : decode prog_2_method_10_code 22 = .ok (.getfield 22, 3) := by decide +kernel
theorem d_P_popLoose_25 : decode prog_2_method_10_code 25 = .ok (.invokestatic 155, 3) := by decide +kernel
theorem d_P_popLoose_28 : decode prog_2_method_10_code 28 = .ok (.ireturn, 1) := by decide +kernel
def b_P_popLoose_17 (post : Int32 → zH → Prop) (h : zH) : Prop := wp_R_at 35 100 ((h.1 29 4)) h (fun (r1 : Int32) (h2 : zH) => post r1 h2)
def wp_P_popLoose (h : zH) (post : Int32 → zH → Prop) : Prop := (((h.1 29 4) ≤ 0 → b_P_popLoose_17 post  h) ∧ (¬ (h.1 29 4) ≤ 0 → (∀ h3 : zH, h3 = zi h 29 4 ((h.1 29 4) - 1) → b_P_popLoose_17 post  h3)))
set_option maxRecDepth 100000 in
set_option maxHeartbeats 4000000 in
theorem w_P_popLoose_17 {l : Launch} {E : zE} {G : (Nat → Prop) → State → Prop} {p : Program} {e : Env} {s : State} {m : MethodId} {args : Array Value} {below : List Frame} {meth : Method} {c : Code} {A : Nat → Prop} {post : Int32 → zH → Prop} (hG : xGG E G) (C : zCx p s m args meth c E G A 1 21 prog_2_method_10_code 1 cn_P) (hr : meth.sig.returnType = (some .int))  (h : zH) (hw : b_P_popLoose_17 post  h) : zGo p l e s m args below meth c E A 1 21 1 (zPi post) h 17 [some (.ref (E.2.2.1 29))] [] := by
  unfold b_P_popLoose_17 at hw
  refine z_aload_n C (i := 0) d_P_popLoose_17 rfl rfl ?_
  refine z_getS C (ci := 4) (j := 3) (F := cf_P) (by decide) rfl rfl in_P (by decide) fl_P_18 rfl d_P_popLoose_18 ?_
  refine z_aload_n C (i := 0) d_P_popLoose_21 rfl rfl ?_
  refine z_getI C (ci := 4) (j := 4) (F := cf_P) (by decide) rfl rfl in_P (by decide) fl_P_22 rfl d_P_popLoose_22 ?_
  refine z_callSNi ⟨xN_ok, hG.1⟩ zT_good C (t_R_at hG hw) wn_R_at nl_P_155 (by decide) (by decide) pl_R_at rfl rfl (Nat.le_of_ble_eq_true rfl) d_P_popLoose_25 (fun r1 h2 hw => ?_)
  exact z_iret C hr d_P_popLoose_28 hw
set_option maxRecDepth 100000 in
set_option maxHeartbeats 4000000 in
theorem t_P_popLoose {l : Launch} {E : zE} {G : (Nat → Prop) → State → Prop} (hG : xGG E G) {h : zH} {post : Int32 → zH → Prop} (hw : wp_P_popLoose  h post) : Ct l xX E xcl xN zT G 1 21 y_P_popLoose prog_2_method_10_code 1 (some .int) [.ref (E.2.2.1 29)] h (zPi post) := by
  unfold wp_P_popLoose at hw
  refine Ct.of (by decide) (Nat.le_of_ble_eq_true rfl) ?_
  intro p e s m below meth c A C hr
  refine z_lv (lv2 := [some (.ref (E.2.2.1 29))]) rfl ?_
  refine z_aload_n C (i := 0) d_P_popLoose_0 rfl rfl ?_
  refine z_getI C (ci := 4) (j := 4) (F := cf_P) (by decide) rfl rfl in_P (by decide) fl_P_22 rfl d_P_popLoose_1 ?_
  refine z_if_le C (tgt := 17) d_P_popLoose_4 (by decide) (fun q => ?_) (fun q => ?_)
  · replace hw := hw.1 q
    refine z_le (lv2 := [some (.ref (E.2.2.1 29))]) (⟨rfl, trivial⟩) ?_
    exact w_P_popLoose_17 hG C hr  _ hw
  · replace hw := hw.2 q
    refine z_aload_n C (i := 0) d_P_popLoose_7 rfl rfl ?_
    refine z_dup C d_P_popLoose_8 rfl ?_
    refine z_getI C (ci := 4) (j := 4) (F := cf_P) (by decide) rfl rfl in_P (by decide) fl_P_22 rfl d_P_popLoose_9 ?_
    refine z_iconst C (v := 1) d_P_popLoose_12 (by decide) ?_
    refine z_isub C d_P_popLoose_13 ?_
    refine z_putI C (ci := 4) (j := 4) (F := cf_P) ct_P (by decide) rfl rfl in_P ty_P nm_P (by decide) fl_P_22 rfl (by decide +kernel) rfl d_P_popLoose_14 (fun h3 eh3 => ?_)
    replace hw := hw h3 eh3
    refine z_le (lv2 := [some (.ref (E.2.2.1 29))]) (⟨rfl, trivial⟩) ?_
    exact w_P_popLoose_17 hG C hr  _ hw
