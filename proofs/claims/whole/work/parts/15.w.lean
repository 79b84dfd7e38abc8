theorem d_M_thrown_0 : decode prog_10_method_2_code 0 = .ok (.aload_n 0, 1) := by decide +kernel
theorem d_M_thrown_1 : decode prog_10_method_2_code 1 = .ok (.getfield 68, 3) := by decide +kernel
theorem d_M_thrown_4 : decode prog_10_method_2_code 4 = .ok (.ireturn, 1) := by decide +kernel
def wp_M_thrown (h : zH) (post : Int32 → zH → Prop) : Prop := post (h.1 39 0) h
set_option maxRecDepth 100000 in
set_option maxHeartbeats 4000000 in
theorem t_M_thrown {l : Launch} {E : zE} {G : (Nat → Prop) → State → Prop} (hG : xGG E G) {h : zH} {post : Int32 → zH → Prop} (hw : wp_M_thrown  h post) : Ct l xX E xcl xN zT G 0 0 y_M_thrown prog_10_method_2_code 1 (some .int) [.ref (E.2.2.1 39)] h (zPi post) := by
  unfold wp_M_thrown at hw
  refine Ct.of (by decide) (Nat.le_of_ble_eq_true rfl) ?_
  intro p e s m below meth c A C hr
  refine z_lv (lv2 := [some (.ref (E.2.2.1 39))]) rfl ?_
  refine z_aload_n C (i := 0) d_M_thrown_0 rfl rfl ?_
  refine z_getI C (ci := 8) (j := 0) (F := cf_M) (by decide) rfl rfl in_M (by decide) fl_M_68 rfl d_M_thrown_1 ?_
  exact z_iret C hr d_M_thrown_4 hw
theorem d_M_truth_0 : decode prog_10_method_34_code 0 = .ok (.iload_n 0, 1) := by decide +kernel
theorem d_M_truth_1 : decode prog_10_method_34_code 1 = .ok (.ifCond .eq (7), 3) := by decide +kernel
theorem d_M_truth_4 : decode prog_10_method_34_code 4 = .ok (.lconst 1, 1) := by decide +kernel
theorem d_M_truth_5 : decode prog_10_method_34_code 5 = .ok (.goto (4), 3) := by decide +kernel
theorem d_M_truth_8 : decode prog_10_method_34_code 8 = .ok (.lconst 0, 1) := by decide +kernel
theorem d_M_truth_9 : decode prog_10_method_34_code 9 = .ok (.lreturn, 1) := by decide +kernel
def b_M_truth_9 (post : Int64 → zH → Prop) (s0 : Int64) (h : zH) : Prop := post s0 h
def wp_M_truth (l0 : Int32) (h : zH) (post : Int64 → zH → Prop) : Prop := ((l0 = 0 → b_M_truth_9 post (0) h) ∧ (¬ l0 = 0 → b_M_truth_9 post (1) h))
set_option maxRecDepth 100000 in
set_option maxHeartbeats 4000000 in
theorem w_M_truth_9 {l : Launch} {E : zE} {G : (Nat → Prop) → State → Prop} {p : Program} {e : Env} {s : State} {m : MethodId} {args : Array Value} {below : List Frame} {meth : Method} {c : Code} {A : Nat → Prop} {post : Int64 → zH → Prop} (hG : xGG E G) (C : zCx p s m args meth c E G A 0 0 prog_10_method_34_code 1 cn_M) (hr : meth.sig.returnType = (some .long))  (s0 : Int64) (h : zH) (hw : b_M_truth_9 post s0 h) : zGo p l e s m args below meth c E A 0 0 1 (zPl post) h 9 [none] [.long s0] := by
  unfold b_M_truth_9 at hw
  exact z_lret C hr d_M_truth_9 hw
set_option maxRecDepth 100000 in
set_option maxHeartbeats 4000000 in
theorem t_M_truth {l : Launch} {E : zE} {G : (Nat → Prop) → State → Prop} (hG : xGG E G) {l0 : Int32} {h : zH} {post : Int64 → zH → Prop} (hw : wp_M_truth l0 h post) : Ct l xX E xcl xN zT G 0 0 y_M_truth prog_10_method_34_code 1 (some .long) [.int l0] h (zPl post) := by
  unfold wp_M_truth at hw
  refine Ct.of (by decide) (Nat.le_of_ble_eq_true rfl) ?_
  intro p e s m below meth c A C hr
  refine z_lv (lv2 := [some (.int l0)]) rfl ?_
  refine z_iload_n C (i := 0) d_M_truth_0 rfl rfl ?_
  refine z_if_eq C (tgt := 8) d_M_truth_1 (by decide) (fun q => ?_) (fun q => ?_)
  · replace hw := hw.1 q
    refine z_lconst C (v := 0) d_M_truth_8 (by decide) ?_
    refine z_le (lv2 := [none]) (trivial) ?_
    exact w_M_truth_9 hG C hr _ _ hw
  · replace hw := hw.2 q
    refine z_lconst C (v := 1) d_M_truth_4 (by decide) ?_
    refine z_goto C (tgt := 9) d_M_truth_5 (by decide) ?_
    refine z_le (lv2 := [none]) (trivial) ?_
    exact w_M_truth_9 hG C hr _ _ hw
theorem d_M_worthOf_0 : decode prog_10_method_35_code 0 = .ok (.bipush (100), 2) := by decide +kernel
theorem d_M_worthOf_2 : decode prog_10_method_35_code 2 = .ok (.iload_n 1, 1) := by decide +kernel
theorem d_M_worthOf_3 : decode prog_10_method_35_code 3 = .ok (.iadd, 1) := by decide +kernel
theorem d_M_worthOf_4 : decode prog_10_method_35_code 4 = .ok (.istore_n 2, 1) := by decide +kernel
theorem d_M_worthOf_5 : decode prog_10_method_35_code 5 = .ok (.aload_n 0, 1) := by decide +kernel
theorem d_M_worthOf_6 : decode prog_10_method_35_code 6 = .ok (.getfield 38, 3) := by decide +kernel
theorem d_M_worthOf_9 : decode prog_10_method_35_code 9 = .ok (.iload_n 2, 1) := by decide +kernel
theorem d_M_worthOf_10 : decode prog_10_method_35_code 10 = .ok (.iaload, 1) := by decide +kernel
theorem d_M_worthOf_11 : decode prog_10_method_35_code 11 = .ok (.ifCond .ge (7), 3) := by decide +kernel
theorem d_M_worthOf_14 : decode prog_10_method_35_code 14 = .ok (.lconst 0, 1) := by decide +kernel
theorem d_M_worthOf_15 : decode prog_10_method_35_code 15 = .ok (.goto (14), 3) := by decide +kernel
theorem d_M_worthOf_18 : decode prog_10_method_35_code 18 = .ok (.aload_n 0, 1) := by decide +kernel
theorem d_M_worthOf_19 : decode prog_10_method_35_code 19 = .ok (.getfield 65, 3) := by decide +kernel
theorem d_M_worthOf_22 : decode prog_10_method_35_code 22 = .ok (.aload_n 0, 1) := by decide +kernel
theorem d_M_worthOf_23 : decode prog_10_method_35_code 23 = .ok (.getfield 38, 3) := by decide +kernel
theorem d_M_worthOf_26 : decode prog_10_method_35_code 26 = .ok (.iload_n 2, 1) := by decide +kernel
theorem d_M_worthOf_27 : decode prog_10_method_35_code 27 = .ok (.iaload, 1) := by decide +kernel
theorem d_M_worthOf_28 : decode prog_10_method_35_code 28 = .ok (.laload, 1) := by decide +kernel
theorem d_M_worthOf_29 : decode prog_10_method_35_code 29 = .ok (.lstore_n 3, 1) := by decide +kernel
theorem d_M_worthOf_30 : decode prog_10_method_35_code 30 = .ok (.aload_n 0, 1) := by decide +kernel
theorem d_M_worthOf_31 : decode prog_10_method_35_code 31 = .ok (.getfield 41, 3) := by decide +kernel
theorem d_M_worthOf_34 : decode prog_10_method_35_code 34 = .ok (.iload_n 2, 1) := by decide +kernel
theorem d_M_worthOf_35 : decode prog_10_method_35_code 35 = .ok (.iaload, 1) := by decide +kernel
theorem d_M_worthOf_36 : decode prog_10_method_35_code 36 = .ok (.ifCond .ge (7), 3) := by decide +kernel
theorem d_M_worthOf_39 : decode prog_10_method_35_code 39 = .ok (.lconst 0, 1) := by decide +kernel
theorem d_M_worthOf_40 : decode prog_10_method_35_code 40 = .ok (.goto (14), 3) := by decide +kernel
theorem d_M_worthOf_43 : decode prog_10_method_35_code 43 = .ok (.aload_n 0, 1) := by decide +kernel
theorem d_M_worthOf_44 : decode prog_10_method_35_code 44 = .ok (.getfield 65, 3) := by decide +kernel
theorem d_M_worthOf_47 : decode prog_10_method_35_code 47 = .ok (.aload_n 0, 1) := by decide +kernel
theorem d_M_worthOf_48 : decode prog_10_method_35_code 48 = .ok (.getfield 41, 3) := by decide +kernel
theorem d_M_worthOf_51 : decode prog_10_method_35_code 51 = .ok (.iload_n 2, 1) := by decide +kernel
theorem d_M_worthOf_52 : decode prog_10_method_35_code 52 = .ok (.iaload, 1) := by decide +kernel
theorem d_M_worthOf_53 : decode prog_10_method_35_code 53 = .ok (.laload, 1) := by decide +kernel
theorem d_M_worthOf_54 : decode prog_10_method_35_code 54 = .ok (.lstore 5, 2) := by decide +kernel
theorem d_M_worthOf_56 : decode prog_10_method_35_code 56 = .ok (.aload_n 0, 1) := by decide +kernel
theorem d_M_worthOf_57 : decode prog_10_method_35_code 57 = .ok (.getfield 22, 3) := by decide +kernel
theorem d_M_worthOf_60 : decode prog_10_method_35_code 60 = .ok (.iload_n 2, 1) := by decide +kernel
theorem d_M_worthOf_61 : decode prog_10_method_35_code 61 = .ok (.iaload, 1) := by decide +kernel
theorem d_M_worthOf_62 : decode prog_10_method_35_code 62 = .ok (.lookupswitch (350) #[(2, 170), (3, 177), (4, 203), (5, 210), (6, 198), (33, 194), (37, 237), (42, 227), (43, 217), (45, 222), (47, 232), (60, 242), (62, 258), (100, 191), (200, 274), (201, 290), (202, 306), (203, 322), (204, 338), (205, 343)], 170) := by decide +kernel
theorem d_M_worthOf_232 : decode prog_10_method_35_code 232 = .ok (.aload_n 0, 1) := by decide +kernel
theorem d_M_worthOf_233 : decode prog_10_method_35_code 233 = .ok (.getfield 50, 3) := by decide +kernel
theorem d_M_worthOf_236 : decode prog_10_method_35_code 236 = .ok (.iload_n 2, 1) := by decide +kernel
theorem d_M_worthOf_237 : decode prog_10_method_35_code 237 = .ok (.laload, 1) := by decide +kernel
theorem d_M_worthOf_238 : decode prog_10_method_35_code 238 = .ok (.lreturn, 1) := by decide +kernel
theorem d_M_worthOf_239 : decode prog_10_method_35_code 239 = .ok (.aload_n 0, 1) := by decide +kernel
theorem d_M_worthOf_240 : decode prog_10_method_35_code 240 = .ok (.getfield 16, 3) := by decide +kernel
theorem d_M_worthOf_243 : decode prog_10_method_35_code 243 = .ok (.aload_n 0, 1) := by decide +kernel
theorem d_M_worthOf_244 : decode prog_10_method_35_code 244 = .ok (.getfield 50, 3) := by decide +kernel
theorem d_M_worthOf_247 : decode prog_10_method_35_code 247 = .ok (.iload_n 2, 1) := by decide +kernel
theorem d_M_worthOf_248 : decode prog_10_method_35_code 248 = .ok (.laload, 1) := by decide +kernel
theorem d_M_worthOf_249 : decode prog_10_method_35_code 249 = .ok (.l2i, 1) := by decide +kernel
theorem d_M_worthOf_250 : decode prog_10_method_35_code 250 = .ok (.iaload, 1) := by decide +kernel
theorem d_M_worthOf_251 : decode prog_10_method_35_code 251 = .ok (.i2l, 1) := by decide +kernel
theorem d_M_worthOf_252 : decode prog_10_method_35_code 252 = .ok (.lreturn, 1) := by decide +kernel
theorem d_M_worthOf_253 : decode prog_10_method_35_code 253 = .ok (.lload_n 3, 1) := by decide +kernel
theorem d_M_worthOf_254 : decode prog_10_method_35_code 254 = .ok (.lneg, 1) := by decide +kernel
theorem d_M_worthOf_255 : decode prog_10_method_35_code 255 = .ok (.lreturn, 1) := by decide +kernel
theorem d_M_worthOf_256 : decode prog_10_method_35_code 256 = .ok (.lconst 1, 1) := by decide +kernel
theorem d_M_worthOf_257 : decode prog_10_method_35_code 257 = .ok (.lload_n 3, 1) := by decide +kernel
theorem d_M_worthOf_258 : decode prog_10_method_35_code 258 = .ok (.lsub, 1) := by decide +kernel
theorem d_M_worthOf_259 : decode prog_10_method_35_code 259 = .ok (.lreturn, 1) := by decide +kernel
theorem d_M_worthOf_260 : decode prog_10_method_35_code 260 = .ok (.lload_n 3, 1) := by decide +kernel
theorem d_M_worthOf_261 : decode prog_10_method_35_code 261 = .ok (.invokestatic 164, 3) := by decide +kernel
theorem d_M_worthOf_264 : decode prog_10_method_35_code 264 = .ok (.lreturn, 1) := by decide +kernel
theorem d_M_worthOf_265 : decode prog_10_method_35_code 265 = .ok (.lload_n 3, 1) := by decide +kernel
theorem d_M_worthOf_266 : decode prog_10_method_35_code 266 = .ok (.lload 5, 2) := by decide +kernel
theorem d_M_worthOf_268 : decode prog_10_method_35_code 268 = .ok (.invokestatic 140, 3) := by decide +kernel
theorem d_M_worthOf_271 : decode prog_10_method_35_code 271 = .ok (.lreturn, 1) := by decide +kernel
theorem d_M_worthOf_272 : decode prog_10_method_35_code 272 = .ok (.lload_n 3, 1) := by decide +kernel
theorem d_M_worthOf_273 : decode prog_10_method_35_code 273 = .ok (.lload 5, 2) := by decide +kernel
theorem d_M_worthOf_275 : decode prog_10_method_35_code 275 = .ok (.invokestatic 147, 3) := by decide +kernel
theorem d_M_worthOf_278 : decode prog_10_method_35_code 278 = .ok (.lreturn, 1) := by decide +kernel
theorem d_M_worthOf_279 : decode prog_10_method_35_code 279 = .ok (.lload_n 3, 1) := by decide +kernel
theorem d_M_worthOf_280 : decode prog_10_method_35_code 280 = .ok (.lload 5, 2) := by decide +kernel
theorem d_M_worthOf_282 : decode prog_10_method_35_code 282 = .ok (.ladd, 1) := by decide +kernel
theorem d_M_worthOf_283 : decode prog_10_method_35_code 283 = .ok (.lreturn, 1) := by decide +kernel
theorem d_M_worthOf_284 : decode prog_10_method_35_code 284 = .ok (.lload_n 3, 1) := by decide +kernel
theorem d_M_worthOf_285 : decode prog_10_method_35_code 285 = .ok (.lload 5, 2) := by decide +kernel
theorem d_M_worthOf_287 : decode prog_10_method_35_code 287 = .ok (.lsub, 1) := by decide +kernel
theorem d_M_worthOf_288 : decode prog_10_method_35_code 288 = .ok (.lreturn, 1) := by decide +kernel
theorem d_M_worthOf_289 : decode prog_10_method_35_code 289 = .ok (.lload_n 3, 1) := by decide +kernel
theorem d_M_worthOf_290 : decode prog_10_method_35_code 290 = .ok (.lload 5, 2) := by decide +kernel
theorem d_M_worthOf_292 : decode prog_10_method_35_code 292 = .ok (.lmul, 1) := by decide +kernel
theorem d_M_worthOf_293 : decode prog_10_method_35_code 293 = .ok (.lreturn, 1) := by decide +kernel
theorem d_M_worthOf_294 : decode prog_10_method_35_code 294 = .ok (.lload_n 3, 1) := by decide +kernel
theorem d_M_worthOf_295 : decode prog_10_method_35_code 295 = .ok (.lload 5, 2) := by decide +kernel
theorem d_M_worthOf_297 : decode prog_10_method_35_code 297 = .ok (.ldiv, 1) := by decide +kernel
theorem d_M_worthOf_298 : decode prog_10_method_35_code 298 = .ok (.lreturn, 1) := by decide +kernel
theorem d_M_worthOf_299 : decode prog_10_method_35_code 299 = .ok (.lload_n 3, 1) := by decide +kernel
theorem d_M_worthOf_300 : decode prog_10_method_35_code 300 = .ok (.lload 5, 2) := by decide +kernel
theorem d_M_worthOf_302 : decode prog_10_method_35_code 302 = .ok (.lrem, 1) := by decide +kernel
theorem d_M_worthOf_303 : decode prog_10_method_35_code 303 = .ok (.lreturn, 1) := by decide +kernel
theorem d_M_worthOf_304 : decode prog_10_method_35_code 304 = .ok (.lload_n 3, 1) := by decide +kernel
theorem d_M_worthOf_305 : decode prog_10_method_35_code 305 = .ok (.lload 5, 2) := by decide +kernel
theorem d_M_worthOf_307 : decode prog_10_method_35_code 307 = .ok (.lcmp, 1) := by decide +kernel
theorem d_M_worthOf_308 : decode prog_10_method_35_code 308 = .ok (.ifCond .ge (7), 3) := by decide +kernel
theorem d_M_worthOf_311 : decode prog_10_method_35_code 311 = .ok (.iconst 1, 1) := by decide +kernel
theorem d_M_worthOf_312 : decode prog_10_method_35_code 312 = .ok (.goto (4), 3) := by decide +kernel
theorem d_M_worthOf_315 : decode prog_10_method_35_code 315 = .ok (.iconst 0, 1) := by decide +kernel
theorem d_M_worthOf_316 : decode prog_10_method_35_code 316 = .ok (.invokestatic 215, 3) := by decide +kernel
theorem d_M_worthOf_319 : decode prog_10_method_35_code 319 = .ok (.lreturn, 1) := by decide +kernel
theorem d_M_worthOf_320 : decode prog_10_method_35_code 320 = .ok (.lload_n 3, 1) := by decide +kernel
theorem d_M_worthOf_321 : decode prog_10_method_35_code 321 = .ok (.lload 5, 2) := by decide +kernel
theorem d_M_worthOf_323 : decode prog_10_method_35_code 323 = .ok (.lcmp, 1) := by decide +kernel
theorem d_M_worthOf_324 : decode prog_10_method_35_code 324 = .ok (.ifCond .le (7), 3) := by decide +kernel
theorem d_M_worthOf_327 : decode prog_10_method_35_code 327 = .ok (.iconst 1, 1) := by decide +kernel
theorem d_M_worthOf_328 : decode prog_10_method_35_code 328 = .ok (.goto (4), 3) := by decide +kernel
theorem d_M_worthOf_331 : decode prog_10_method_35_code 331 = .ok (.iconst 0, 1) := by decide +kernel
theorem d_M_worthOf_332 : decode prog_10_method_35_code 332 = .ok (.invokestatic 215, 3) := by decide +kernel
theorem d_M_worthOf_335 : decode prog_10_method_35_code 335 = .ok (.lreturn, 1) := by decide +kernel
theorem d_M_worthOf_336 : decode prog_10_method_35_code 336 = .ok (.lload_n 3, 1) := by decide +kernel
theorem d_M_worthOf_337 : decode prog_10_method_35_code 337 = .ok (.lload 5, 2) := by decide +kernel
theorem d_M_worthOf_339 : decode prog_10_method_35_code 339 = .ok (.lcmp, 1) := by decide +kernel
theorem d_M_worthOf_340 : decode prog_10_method_35_code 340 = .ok (.ifCond .gt (7), 3) := by decide +kernel
theorem d_M_worthOf_343 : decode prog_10_method_35_code 343 = .ok (.iconst 1, 1) := by decide +kernel
theorem d_M_worthOf_344 : decode prog_10_method_35_code 344 = .ok (.goto (4), 3) := by decide +kernel
theorem d_M_worthOf_347 : decode prog_10_method_35_code 347 = .ok (.iconst 0, 1) := by decide +kernel
theorem d_M_worthOf_348 : decode prog_10_method_35_code 348 = .ok (.invokestatic 215, 3) := by decide +kernel
theorem d_M_worthOf_351 : decode prog_10_method_35_code 351 = .ok (.lreturn, 1) := by decide +kernel
theorem d_M_worthOf_352 : decode prog_10_method_35_code 352 = .ok (.lload_n 3, 1) := by decide +kernel
theorem d_M_worthOf_353 : decode prog_10_method_35_code 353 = .ok (.lload 5, 2) := by decide +kernel
theorem d_M_worthOf_355 : decode prog_10_method_35_code 355 = .ok (.lcmp, 1) := by decide +kernel
theorem d_M_worthOf_356 : decode prog_10_method_35_code 356 = .ok (.ifCond .lt (7), 3) := by decide +kernel
theorem d_M_worthOf_359 : decode prog_10_method_35_code 359 = .ok (.iconst 1, 1) := by decide +kernel
theorem d_M_worthOf_360 : decode prog_10_method_35_code 360 = .ok (.goto (4), 3) := by decide +kernel
theorem d_M_worthOf_363 : decode prog_10_method_35_code 363 = .ok (.iconst 0, 1) := by decide +kernel
theorem d_M_worthOf_364 : decode prog_10_method_35_code 364 = .ok (.invokestatic 215, 3) := by decide +kernel
theorem d_M_worthOf_367 : decode prog_10_method_35_code 367 = .ok (.lreturn, 1) := by decide +kernel
theorem d_M_worthOf_368 : decode prog_10_method_35_code 368 = .ok (.lload_n 3, 1) := by decide +kernel
theorem d_M_worthOf_369 : decode prog_10_method_35_code 369 = .ok (.lload 5, 2) := by decide +kernel
theorem d_M_worthOf_371 : decode prog_10_method_35_code 371 = .ok (.lcmp, 1) := by decide +kernel
theorem d_M_worthOf_372 : decode prog_10_method_35_code 372 = .ok (.ifCond .ne (7), 3) := by decide +kernel
theorem d_M_worthOf_375 : decode prog_10_method_35_code 375 = .ok (.iconst 1, 1) := by decide +kernel
theorem d_M_worthOf_376 : decode prog_10_method_35_code 376 = .ok (.goto (4), 3) := by decide +kernel
theorem d_M_worthOf_379 : decode prog_10_method_35_code 379 = .ok (.iconst 0, 1) := by decide +kernel
theorem d_M_worthOf_380 : decode prog_10_method_35_code 380 = .ok (.invokestatic 215, 3) := by decide +kernel
theorem d_M_worthOf_383 : decode prog_10_method_35_code 383 = .ok (.lreturn, 1) := by decide +kernel
theorem d_M_worthOf_384 : decode prog_10_method_35_code 384 = .ok (.lload_n 3, 1) := by decide +kernel
theorem d_M_worthOf_385 : decode prog_10_method_35_code 385 = .ok (.lload 5, 2) := by decide +kernel
theorem d_M_worthOf_387 : decode prog_10_method_35_code 387 = .ok (.lcmp, 1) := by decide +kernel
theorem d_M_worthOf_388 : decode prog_10_method_35_code 388 = .ok (.ifCond .eq (7), 3) := by decide +kernel
theorem d_M_worthOf_391 : decode prog_10_method_35_code 391 = .ok (.iconst 1, 1) := by decide +kernel
theorem d_M_worthOf_392 : decode prog_10_method_35_code 392 = .ok (.goto (4), 3) := by decide +kernel
theorem d_M_worthOf_395 : decode prog_10_method_35_code 395 = .ok (.iconst 0, 1) := by decide +kernel
theorem d_M_worthOf_396 : decode prog_10_method_35_code 396 = .ok (.invokestatic 215, 3) := by decide +kernel
theorem d_M_worthOf_399 : decode prog_10_method_35_code 399 = .ok (.lreturn, 1) := by decide +kernel
theorem d_M_worthOf_400 : decode prog_10_method_35_code 400 = .ok (.lload_n 3, 1) := by decide +kernel
theorem d_M_worthOf_401 : decode prog_10_method_35_code 401 = .ok (.lload 5, 2) := by decide +kernel
theorem d_M_worthOf_403 : decode prog_10_method_35_code 403 = .ok (.lmul, 1) := by decide +kernel
theorem d_M_worthOf_404 : decode prog_10_method_35_code 404 = .ok (.lreturn, 1) := by decide +kernel
theorem d_M_worthOf_405 : decode prog_10_method_35_code 405 = .ok (.lload_n 3, 1) := by decide +kernel
theorem d_M_worthOf_406 : decode prog_10_method_35_code 406 = .ok (.lload 5, 2) := by decide +kernel
theorem d_M_worthOf_408 : decode prog_10_method_35_code 408 = .ok (.invokestatic 147, 3) := by decide +kernel
theorem d_M_worthOf_411 : decode prog_10_method_35_code 411 = .ok (.lreturn, 1) := by decide +kernel
theorem d_M_worthOf_412 : decode prog_10_method_35_code 412 = .ok (.lload_n 3, 1) := by decide +kernel
theorem d_M_worthOf_413 : decode prog_10_method_35_code 413 = .ok (.lconst 1, 1) := by decide +kernel
theorem d_M_worthOf_414 : decode prog_10_method_35_code 414 = .ok (.lcmp, 1) := by decide +kernel
theorem d_M_worthOf_415 : decode prog_10_method_35_code 415 = .ok (.ifCond .ne (8), 3) := by decide +kernel
theorem d_M_worthOf_418 : decode prog_10_method_35_code 418 = .ok (.lload 5, 2) := by decide +kernel
theorem d_M_worthOf_420 : decode prog_10_method_35_code 420 = .ok (.goto (14), 3) := by decide +kernel
theorem d_M_worthOf_423 : decode prog_10_method_35_code 423 = .ok (.aload_n 0, 1) := by decide +kernel
theorem d_M_worthOf_424 : decode prog_10_method_35_code 424 = .ok (.getfield 65, 3) := by decide +kernel
theorem d_M_worthOf_427 : decode prog_10_method_35_code 427 = .ok (.aload_n 0, 1) := by decide +kernel
theorem d_M_worthOf_428 : decode prog_10_method_35_code 428 = .ok (.getfield 44, 3) := by decide +kernel
theorem d_M_worthOf_431 : decode prog_10_method_35_code 431 = .ok (.iload_n 2, 1) := by decide +kernel
theorem d_M_worthOf_432 : decode prog_10_method_35_code 432 = .ok (.iaload, 1) := by decide +kernel
theorem d_M_worthOf_433 : decode prog_10_method_35_code 433 = .ok (.laload, 1) := by decide +kernel
theorem d_M_worthOf_434 : decode prog_10_method_35_code 434 = .ok (.lreturn, 1) := by decide +kernel
def b_M_worthOf_434 (post : Int64 → zH → Prop) (s0 : Int64) (h : zH) : Prop := post s0 h
def b_M_worthOf_396 (post : Int64 → zH → Prop) (s0 : Int32) (h : zH) : Prop := wp_M_truth (s0) h (fun (r1 : Int64) (h2 : zH) => post r1 h2)
def b_M_worthOf_380 (post : Int64 → zH → Prop) (s0 : Int32) (h : zH) : Prop := wp_M_truth (s0) h (fun (r3 : Int64) (h4 : zH) => post r3 h4)
def b_M_worthOf_364 (post : Int64 → zH → Prop) (s0 : Int32) (h : zH) : Prop := wp_M_truth (s0) h (fun (r5 : Int64) (h6 : zH) => post r5 h6)
def b_M_worthOf_348 (post : Int64 → zH → Prop) (s0 : Int32) (h : zH) : Prop := wp_M_truth (s0) h (fun (r7 : Int64) (h8 : zH) => post r7 h8)
def b_M_worthOf_332 (post : Int64 → zH → Prop) (s0 : Int32) (h : zH) : Prop := wp_M_truth (s0) h (fun (r9 : Int64) (h10 : zH) => post r9 h10)
def b_M_worthOf_316 (post : Int64 → zH → Prop) (s0 : Int32) (h : zH) : Prop := wp_M_truth (s0) h (fun (r11 : Int64) (h12 : zH) => post r11 h12)
def b_M_worthOf_54 (post : Int64 → zH → Prop) (l2 : Int32) (l3 : Int64) (s0 : Int64) (h : zH) : Prop := (vp_in l2 200 ∧ (((h.1 44 (l2 : Int32).toNatClampNeg) = 2 → (vp_in l2 200 ∧ post (h.2.1 53 (l2 : Int32).toNatClampNeg) h)) ∧ (¬ (h.1 44 (l2 : Int32).toNatClampNeg) = 2 → (((h.1 44 (l2 : Int32).toNatClampNeg) = 3 → (vp_in l2 200 ∧ (vp_in ((h.2.1 53 (l2 : Int32).toNatClampNeg) : Int64).toInt32 20 ∧ post ((h.1 42 (((h.2.1 53 (l2 : Int32).toNatClampNeg) : Int64).toInt32 : Int32).toNatClampNeg) : Int32).toInt64 h))) ∧ (¬ (h.1 44 (l2 : Int32).toNatClampNeg) = 3 → (((h.1 44 (l2 : Int32).toNatClampNeg) = 4 → wp_M_lesser (l3) (s0) h (fun (r13 : Int64) (h14 : zH) => post r13 h14)) ∧ (¬ (h.1 44 (l2 : Int32).toNatClampNeg) = 4 → (((h.1 44 (l2 : Int32).toNatClampNeg) = 5 → wp_M_greater (l3) (s0) h (fun (r15 : Int64) (h16 : zH) => post r15 h16)) ∧ (¬ (h.1 44 (l2 : Int32).toNatClampNeg) = 5 → (((h.1 44 (l2 : Int32).toNatClampNeg) = 6 → wp_M_size (l3) h (fun (r17 : Int64) (h18 : zH) => post r17 h18)) ∧ (¬ (h.1 44 (l2 : Int32).toNatClampNeg) = 6 → (((h.1 44 (l2 : Int32).toNatClampNeg) = 33 → post (1 - l3) h) ∧ (¬ (h.1 44 (l2 : Int32).toNatClampNeg) = 33 → (((h.1 44 (l2 : Int32).toNatClampNeg) = 37 → (¬ s0 = 0 ∧ post (l3 - l3 / s0 * s0) h)) ∧ (¬ (h.1 44 (l2 : Int32).toNatClampNeg) = 37 → (((h.1 44 (l2 : Int32).toNatClampNeg) = 42 → post (l3 * s0) h) ∧ (¬ (h.1 44 (l2 : Int32).toNatClampNeg) = 42 → (((h.1 44 (l2 : Int32).toNatClampNeg) = 43 → post (l3 + s0) h) ∧ (¬ (h.1 44 (l2 : Int32).toNatClampNeg) = 43 → (((h.1 44 (l2 : Int32).toNatClampNeg) = 45 → post (l3 - s0) h) ∧ (¬ (h.1 44 (l2 : Int32).toNatClampNeg) = 45 → (((h.1 44 (l2 : Int32).toNatClampNeg) = 47 → (¬ s0 = 0 ∧ post (l3 / s0) h)) ∧ (¬ (h.1 44 (l2 : Int32).toNatClampNeg) = 47 → (((h.1 44 (l2 : Int32).toNatClampNeg) = 60 → ((0 ≤ (lg_cmp l3 s0) → b_M_worthOf_316 post (0) h) ∧ (¬ 0 ≤ (lg_cmp l3 s0) → b_M_worthOf_316 post (1) h))) ∧ (¬ (h.1 44 (l2 : Int32).toNatClampNeg) = 60 → (((h.1 44 (l2 : Int32).toNatClampNeg) = 62 → (((lg_cmp l3 s0) ≤ 0 → b_M_worthOf_332 post (0) h) ∧ (¬ (lg_cmp l3 s0) ≤ 0 → b_M_worthOf_332 post (1) h))) ∧ (¬ (h.1 44 (l2 : Int32).toNatClampNeg) = 62 → (((h.1 44 (l2 : Int32).toNatClampNeg) = 100 → post (-l3) h) ∧ (¬ (h.1 44 (l2 : Int32).toNatClampNeg) = 100 → (((h.1 44 (l2 : Int32).toNatClampNeg) = 200 → ((0 < (lg_cmp l3 s0) → b_M_worthOf_348 post (0) h) ∧ (¬ 0 < (lg_cmp l3 s0) → b_M_worthOf_348 post (1) h))) ∧ (¬ (h.1 44 (l2 : Int32).toNatClampNeg) = 200 → (((h.1 44 (l2 : Int32).toNatClampNeg) = 201 → (((lg_cmp l3 s0) < 0 → b_M_worthOf_364 post (0) h) ∧ (¬ (lg_cmp l3 s0) < 0 → b_M_worthOf_364 post (1) h))) ∧ (¬ (h.1 44 (l2 : Int32).toNatClampNeg) = 201 → (((h.1 44 (l2 : Int32).toNatClampNeg) = 202 → ((¬ (lg_cmp l3 s0) = 0 → b_M_worthOf_380 post (0) h) ∧ ((lg_cmp l3 s0) = 0 → b_M_worthOf_380 post (1) h))) ∧ (¬ (h.1 44 (l2 : Int32).toNatClampNeg) = 202 → (((h.1 44 (l2 : Int32).toNatClampNeg) = 203 → (((lg_cmp l3 s0) = 0 → b_M_worthOf_396 post (0) h) ∧ (¬ (lg_cmp l3 s0) = 0 → b_M_worthOf_396 post (1) h))) ∧ (¬ (h.1 44 (l2 : Int32).toNatClampNeg) = 203 → (((h.1 44 (l2 : Int32).toNatClampNeg) = 204 → post (l3 * s0) h) ∧ (¬ (h.1 44 (l2 : Int32).toNatClampNeg) = 204 → (((h.1 44 (l2 : Int32).toNatClampNeg) = 205 → wp_M_greater (l3) (s0) h (fun (r19 : Int64) (h20 : zH) => post r19 h20)) ∧ (¬ (h.1 44 (l2 : Int32).toNatClampNeg) = 205 → ((¬ (lg_cmp l3 1) = 0 → (vp_in l2 200 ∧ (vp_in (h.1 51 (l2 : Int32).toNatClampNeg) 100 ∧ b_M_worthOf_434 post ((h.2.1 58 ((h.1 51 (l2 : Int32).toNatClampNeg) : Int32).toNatClampNeg)) h))) ∧ ((lg_cmp l3 1) = 0 → b_M_worthOf_434 post (s0) h)))))))))))))))))))))))))))))))))))))))))))
def b_M_worthOf_29 (post : Int64 → zH → Prop) (l2 : Int32) (s0 : Int64) (h : zH) : Prop := (vp_in l2 200 ∧ ((0 ≤ (h.1 50 (l2 : Int32).toNatClampNeg) → (vp_in l2 200 ∧ (vp_in (h.1 50 (l2 : Int32).toNatClampNeg) 100 ∧ b_M_worthOf_54 post (l2) (s0) ((h.2.1 58 ((h.1 50 (l2 : Int32).toNatClampNeg) : Int32).toNatClampNeg)) h))) ∧ (¬ 0 ≤ (h.1 50 (l2 : Int32).toNatClampNeg) → b_M_worthOf_54 post (l2) (s0) (0) h)))
def wp_M_worthOf (l1 : Int32) (h : zH) (post : Int64 → zH → Prop) : Prop := (vp_in (100 + l1) 200 ∧ ((0 ≤ (h.1 49 ((100 + l1) : Int32).toNatClampNeg) → (vp_in (100 + l1) 200 ∧ (vp_in (h.1 49 ((100 + l1) : Int32).toNatClampNeg) 100 ∧ b_M_worthOf_29 post ((100 + l1)) ((h.2.1 58 ((h.1 49 ((100 + l1) : Int32).toNatClampNeg) : Int32).toNatClampNeg)) h))) ∧ (¬ 0 ≤ (h.1 49 ((100 + l1) : Int32).toNatClampNeg) → b_M_worthOf_29 post ((100 + l1)) (0) h)))
set_option maxRecDepth 100000 in
set_option maxHeartbeats 4000000 in
theorem w_M_worthOf_434 {l : Launch} {E : zE} {G : (Nat → Prop) → State → Prop} {p : Program} {e : Env} {s : State} {m : MethodId} {args : Array Value} {below : List Frame} {meth : Method} {c : Code} {A : Nat → Prop} {post : Int64 → zH → Prop} (hG : xGG E G) (C : zCx p s m args meth c E G A 1 23 prog_10_method_35_code 7 cn_M) (hr : meth.sig.returnType = (some .long))  (s0 : Int64) (h : zH) (hw : b_M_worthOf_434 post s0 h) : zGo p l e s m args below meth c E A 1 23 7 (zPl post) h 434 [none, none, none, none, none, none, none] [.long s0] := by
  unfold b_M_worthOf_434 at hw
  exact z_lret C hr d_M_worthOf_434 hw
set_option maxRecDepth 100000 in
set_option maxHeartbeats 4000000 in
theorem w_M_worthOf_396 {l : Launch} {E : zE} {G : (Nat → Prop) → State → Prop} {p : Program} {e : Env} {s : State} {m : MethodId} {args : Array Value} {below : List Frame} {meth : Method} {c : Code} {A : Nat → Prop} {post : Int64 → zH → Prop} (hG : xGG E G) (C : zCx p s m args meth c E G A 1 23 prog_10_method_35_code 7 cn_M) (hr : meth.sig.returnType = (some .long))  (s0 : Int32) (h : zH) (hw : b_M_worthOf_396 post s0 h) : zGo p l e s m args below meth c E A 1 23 7 (zPl post) h 396 [none, none, none, none, none, none, none] [.int s0] := by
  unfold b_M_worthOf_396 at hw
  refine z_callSl ⟨xN_ok, hG.1⟩ zT_good C (t_M_truth hG hw) ol_M_215 (by decide) (by decide) pl_M_truth rfl rfl (Nat.le_of_ble_eq_true rfl) d_M_worthOf_396 (fun r1 h2 hw => ?_)
  exact z_lret C hr d_M_worthOf_399 hw
set_option maxRecDepth 100000 in
set_option maxHeartbeats 4000000 in
theorem w_M_worthOf_380 {l : Launch} {E : zE} {G : (Nat → Prop) → State → Prop} {p : Program} {e : Env} {s : State} {m : MethodId} {args : Array Value} {below : List Frame} {meth : Method} {c : Code} {A : Nat → Prop} {post : Int64 → zH → Prop} (hG : xGG E G) (C : zCx p s m args meth c E G A 1 23 prog_10_method_35_code 7 cn_M) (hr : meth.sig.returnType = (some .long))  (s0 : Int32) (h : zH) (hw : b_M_worthOf_380 post s0 h) : zGo p l e s m args below meth c E A 1 23 7 (zPl post) h 380 [none, none, none, none, none, none, none] [.int s0] := by
  unfold b_M_worthOf_380 at hw
  refine z_callSl ⟨xN_ok, hG.1⟩ zT_good C (t_M_truth hG hw) ol_M_215 (by decide) (by decide) pl_M_truth rfl rfl (Nat.le_of_ble_eq_true rfl) d_M_worthOf_380 (fun r3 h4 hw => ?_)
  exact z_lret C hr d_M_worthOf_383 hw
set_option maxRecDepth 100000 in
set_option maxHeartbeats 4000000 in
theorem w_M_worthOf_364 {l : Launch} {E : zE} {G : (Nat → Prop) → State → Prop} {p : Program} {e : Env} {s : State} {m : MethodId} {args : Array Value} {below : List Frame} {meth : Method} {c : Code} {A : Nat → Prop} {post : Int64 → zH → Prop} (hG : xGG E G) (C : zCx p s m args meth c E G A 1 23 prog_10_method_35_code 7 cn_M) (hr : meth.sig.returnType = (some .long))  (s0 : Int32) (h : zH) (hw : b_M_worthOf_364 post s0 h) : zGo p l e s m args below meth c E A 1 23 7 (zPl post) h 364 [none, none, none, none, none, none, none] [.int s0] := by
  unfold b_M_worthOf_364 at hw
  refine z_callSl ⟨xN_ok, hG.1⟩ zT_good C (t_M_truth hG hw) ol_M_215 (by decide) (by decide) pl_M_truth rfl rfl (Nat.le_of_ble_eq_true rfl) d_M_worthOf_364 (fun r5 h6 hw => ?_)
  exact z_lret C hr d_M_worthOf_367 hw
set_option maxRecDepth 100000 in
set_option maxHeartbeats 4000000 in
theorem w_M_worthOf_348 {l : Launch} {E : zE} {G : (Nat → Prop) → State → Prop} {p : Program} {e : Env} {s : State} {m : MethodId} {args : Array Value} {below : List Frame} {meth : Method} {c : Code} {A : Nat → Prop} {post : Int64 → zH → Prop} (hG : xGG E G) (C : zCx p s m args meth c E G A 1 23 prog_10_method_35_code 7 cn_M) (hr : meth.sig.returnType = (some .long))  (s0 : Int32) (h : zH) (hw : b_M_worthOf_348 post s0 h) : zGo p l e s m args below meth c E A 1 23 7 (zPl post) h 348 [none, none, none, none, none, none, none] [.int s0] := by
  unfold b_M_worthOf_348 at hw
  refine z_callSl ⟨xN_ok, hG.1⟩ zT_good C (t_M_truth hG hw) ol_M_215 (by decide) (by decide) pl_M_truth rfl rfl (Nat.le_of_ble_eq_true rfl) d_M_worthOf_348 (fun r7 h8 hw => ?_)
  exact z_lret C hr d_M_worthOf_351 hw
set_option maxRecDepth 100000 in
set_option maxHeartbeats 4000000 in
theorem w_M_worthOf_332 {l : Launch} {E : zE} {G : (Nat → Prop) → State → Prop} {p : Program} {e : Env} {s : State} {m : MethodId} {args : Array Value} {below : List Frame} {meth : Method} {c : Code} {A : Nat → Prop} {post : Int64 → zH → Prop} (hG : xGG E G) (C : zCx p s m args meth c E G A 1 23 prog_10_method_35_code 7 cn_M) (hr : meth.sig.returnType = (some .long))  (s0 : Int32) (h : zH) (hw : b_M_worthOf_332 post s0 h) : zGo p l e s m args below meth c E A 1 23 7 (zPl post) h 332 [none, none, none, none, none, none, none] [.int s0] := by
  unfold b_M_worthOf_332 at hw
  refine z_callSl ⟨xN_ok, hG.1⟩ zT_good C (t_M_truth hG hw) ol_M_215 (by decide) (by decide) pl_M_truth rfl rfl (Nat.le_of_ble_eq_true rfl) d_M_worthOf_332 (fun r9 h10 hw => ?_)
  exact z_lret C hr d_M_worthOf_335 hw
set_option maxRecDepth 100000 in
set_option maxHeartbeats 4000000 in
theorem w_M_worthOf_316 {l : Launch} {E : zE} {G : (Nat → Prop) → State → Prop} {p : Program} {e : Env} {s : State} {m : MethodId} {args : Array Value} {below : List Frame} {meth : Method} {c : Code} {A : Nat → Prop} {post : Int64 → zH → Prop} (hG : xGG E G) (C : zCx p s m args meth c E G A 1 23 prog_10_method_35_code 7 cn_M) (hr : meth.sig.returnType = (some .long))  (s0 : Int32) (h : zH) (hw : b_M_worthOf_316 post s0 h) : zGo p l e s m args below meth c E A 1 23 7 (zPl post) h 316 [none, none, none, none, none, none, none] [.int s0] := by
  unfold b_M_worthOf_316 at hw
  refine z_callSl ⟨xN_ok, hG.1⟩ zT_good C (t_M_truth hG hw) ol_M_215 (by decide) (by decide) pl_M_truth rfl rfl (Nat.le_of_ble_eq_true rfl) d_M_worthOf_316 (fun r11 h12 hw => ?_)
  exact z_lret C hr d_M_worthOf_319 hw
set_option maxRecDepth 100000 in
set_option maxHeartbeats 4000000 in
theorem w_M_worthOf_54 {l : Launch} {E : zE} {G : (Nat → Prop) → State → Prop} {p : Program} {e : Env} {s : State} {m : MethodId} {args : Array Value} {below : List Frame} {meth : Method} {c : Code} {A : Nat → Prop} {post : Int64 → zH → Prop} (hG : xGG E G) (C : zCx p s m args meth c E G A 1 23 prog_10_method_35_code 7 cn_M) (hr : meth.sig.returnType = (some .long))  (l2 : Int32) (l3 : Int64) (s0 : Int64) (h : zH) (hw : b_M_worthOf_54 post l2 l3 s0 h) : zGo p l e s m args below meth c E A 1 23 7 (zPl post) h 54 [some (.ref (E.2.2.1 39)), none, some (.int l2), some (.long l3), none, none, none] [.long s0] := by
  unfold b_M_worthOf_54 at hw
  refine z_lstore C d_M_worthOf_54 (by decide) rfl ?_
  refine z_aload_n C (i := 0) d_M_worthOf_56 rfl rfl ?_
  refine z_getS C (ci := 8) (j := 12) (F := cf_M) (by decide) rfl rfl in_M (by decide) fl_M_22 rfl d_M_worthOf_57 ?_
  refine z_iload_n C (i := 2) d_M_worthOf_60 rfl rfl ?_
  refine z_iald C (by decide) rfl hw.1 d_M_worthOf_61 ?_
  replace hw := hw.2
  refine z_lcase C (off := 170) (tgt := 232) (2 : Int32) d_M_worthOf_62 (by decide) (by decide) (by decide) (fun q0 => ?_) (fun q0 => ?_)
  · replace hw := hw.1 q0
    refine z_aload_n C (i := 0) d_M_worthOf_232 rfl rfl ?_
    refine z_getS C (ci := 8) (j := 21) (F := cf_M) (by decide) rfl rfl in_M (by decide) fl_M_50 rfl d_M_worthOf_233 ?_
    refine z_iload_n C (i := 2) d_M_worthOf_236 rfl rfl ?_
    refine z_lald C (by decide) rfl hw.1 d_M_worthOf_237 ?_
    replace hw := hw.2
    exact z_lret C hr d_M_worthOf_238 hw
  replace hw := hw.2 q0
  refine z_lcase C (off := 177) (tgt := 239) (3 : Int32) d_M_worthOf_62 (by decide) (by decide) (by decide) (fun q1 => ?_) (fun q1 => ?_)
  · replace hw := hw.1 q1
    refine z_aload_n C (i := 0) d_M_worthOf_239 rfl rfl ?_
    refine z_getS C (ci := 8) (j := 4) (F := cf_M) (by decide) rfl rfl in_M (by decide) fl_M_16 rfl d_M_worthOf_240 ?_
    refine z_aload_n C (i := 0) d_M_worthOf_243 rfl rfl ?_
    refine z_getS C (ci := 8) (j := 21) (F := cf_M) (by decide) rfl rfl in_M (by decide) fl_M_50 rfl d_M_worthOf_244 ?_
    refine z_iload_n C (i := 2) d_M_worthOf_247 rfl rfl ?_
    refine z_lald C (by decide) rfl hw.1 d_M_worthOf_248 ?_
    replace hw := hw.2
    refine z_l2i C d_M_worthOf_249 ?_
    refine z_iald C (by decide) rfl hw.1 d_M_worthOf_250 ?_
    replace hw := hw.2
    refine z_i2l C d_M_worthOf_251 ?_
    exact z_lret C hr d_M_worthOf_252 hw
  replace hw := hw.2 q1
  refine z_lcase C (off := 203) (tgt := 265) (4 : Int32) d_M_worthOf_62 (by decide) (by decide) (by decide) (fun q2 => ?_) (fun q2 => ?_)
  · replace hw := hw.1 q2
    refine z_lload_n C (i := 3) d_M_worthOf_265 rfl rfl ?_
    refine z_lload C d_M_worthOf_266 rfl ?_
    refine z_callSl ⟨xN_ok, hG.1⟩ zT_good C (t_M_lesser hG hw) ol_M_140 (by decide) (by decide) pl_M_lesser rfl rfl (Nat.le_of_ble_eq_true rfl) d_M_worthOf_268 (fun r13 h14 hw => ?_)
    exact z_lret C hr d_M_worthOf_271 hw
  replace hw := hw.2 q2
  refine z_lcase C (off := 210) (tgt := 272) (5 : Int32) d_M_worthOf_62 (by decide) (by decide) (by decide) (fun q3 => ?_) (fun q3 => ?_)
  · replace hw := hw.1 q3
    refine z_lload_n C (i := 3) d_M_worthOf_272 rfl rfl ?_
    refine z_lload C d_M_worthOf_273 rfl ?_
    refine z_callSl ⟨xN_ok, hG.1⟩ zT_good C (t_M_greater hG hw) ol_M_147 (by decide) (by decide) pl_M_greater rfl rfl (Nat.le_of_ble_eq_true rfl) d_M_worthOf_275 (fun r15 h16 hw => ?_)
    exact z_lret C hr d_M_worthOf_278 hw
  replace hw := hw.2 q3
  refine z_lcase C (off := 198) (tgt := 260) (6 : Int32) d_M_worthOf_62 (by decide) (by decide) (by decide) (fun q4 => ?_) (fun q4 => ?_)
  · replace hw := hw.1 q4
    refine z_lload_n C (i := 3) d_M_worthOf_260 rfl rfl ?_
    refine z_callSl ⟨xN_ok, hG.1⟩ zT_good C (t_M_size hG hw) ol_M_164 (by decide) (by decide) pl_M_size rfl rfl (Nat.le_of_ble_eq_true rfl) d_M_worthOf_261 (fun r17 h18 hw => ?_)
    exact z_lret C hr d_M_worthOf_264 hw
  replace hw := hw.2 q4
  refine z_lcase C (off := 194) (tgt := 256) (33 : Int32) d_M_worthOf_62 (by decide) (by decide) (by decide) (fun q5 => ?_) (fun q5 => ?_)
  · replace hw := hw.1 q5
    refine z_lconst C (v := 1) d_M_worthOf_256 (by decide) ?_
    refine z_lload_n C (i := 3) d_M_worthOf_257 rfl rfl ?_
    refine z_lsub C d_M_worthOf_258 ?_
    exact z_lret C hr d_M_worthOf_259 hw
  replace hw := hw.2 q5
  refine z_lcase C (off := 237) (tgt := 299) (37 : Int32) d_M_worthOf_62 (by decide) (by decide) (by decide) (fun q6 => ?_) (fun q6 => ?_)
  · replace hw := hw.1 q6
    refine z_lload_n C (i := 3) d_M_worthOf_299 rfl rfl ?_
    refine z_lload C d_M_worthOf_300 rfl ?_
    refine z_lrem C d_M_worthOf_302 hw.1 ?_
    replace hw := hw.2
    exact z_lret C hr d_M_worthOf_303 hw
  replace hw := hw.2 q6
  refine z_lcase C (off := 227) (tgt := 289) (42 : Int32) d_M_worthOf_62 (by decide) (by decide) (by decide) (fun q7 => ?_) (fun q7 => ?_)
  · replace hw := hw.1 q7
    refine z_lload_n C (i := 3) d_M_worthOf_289 rfl rfl ?_
    refine z_lload C d_M_worthOf_290 rfl ?_
    refine z_lmul C d_M_worthOf_292 ?_
    exact z_lret C hr d_M_worthOf_293 hw
  replace hw := hw.2 q7
  refine z_lcase C (off := 217) (tgt := 279) (43 : Int32) d_M_worthOf_62 (by decide) (by decide) (by decide) (fun q8 => ?_) (fun q8 => ?_)
  · replace hw := hw.1 q8
    refine z_lload_n C (i := 3) d_M_worthOf_279 rfl rfl ?_
    refine z_lload C d_M_worthOf_280 rfl ?_
    refine z_ladd C d_M_worthOf_282 ?_
    exact z_lret C hr d_M_worthOf_283 hw
  replace hw := hw.2 q8
  refine z_lcase C (off := 222) (tgt := 284) (45 : Int32) d_M_worthOf_62 (by decide) (by decide) (by decide) (fun q9 => ?_) (fun q9 => ?_)
  · replace hw := hw.1 q9
    refine z_lload_n C (i := 3) d_M_worthOf_284 rfl rfl ?_
    refine z_lload C d_M_worthOf_285 rfl ?_
    refine z_lsub C d_M_worthOf_287 ?_
    exact z_lret C hr d_M_worthOf_288 hw
  replace hw := hw.2 q9
  refine z_lcase C (off := 232) (tgt := 294) (47 : Int32) d_M_worthOf_62 (by decide) (by decide) (by decide) (fun q10 => ?_) (fun q10 => ?_)
  · replace hw := hw.1 q10
    refine z_lload_n C (i := 3) d_M_worthOf_294 rfl rfl ?_
    refine z_lload C d_M_worthOf_295 rfl ?_
    refine z_ldiv C d_M_worthOf_297 hw.1 ?_
    replace hw := hw.2
    exact z_lret C hr d_M_worthOf_298 hw
  replace hw := hw.2 q10
  refine z_lcase C (off := 242) (tgt := 304) (60 : Int32) d_M_worthOf_62 (by decide) (by decide) (by decide) (fun q11 => ?_) (fun q11 => ?_)
  · replace hw := hw.1 q11
    refine z_lload_n C (i := 3) d_M_worthOf_304 rfl rfl ?_
    refine z_lload C d_M_worthOf_305 rfl ?_
    refine z_lcmp C d_M_worthOf_307 ?_
    refine z_if_ge C (tgt := 315) d_M_worthOf_308 (by decide) (fun q => ?_) (fun q => ?_)
    · replace hw := hw.1 q
      refine z_iconst C (v := 0) d_M_worthOf_315 (by decide) ?_
      refine z_le (lv2 := [none, none, none, none, none, none, none]) (trivial) ?_
      exact w_M_worthOf_316 hG C hr _ _ hw
    · replace hw := hw.2 q
      refine z_iconst C (v := 1) d_M_worthOf_311 (by decide) ?_
      refine z_goto C (tgt := 316) d_M_worthOf_312 (by decide) ?_
      refine z_le (lv2 := [none, none, none, none, none, none, none]) (trivial) ?_
      exact w_M_worthOf_316 hG C hr _ _ hw
  replace hw := hw.2 q11
  refine z_lcase C (off := 258) (tgt := 320) (62 : Int32) d_M_worthOf_62 (by decide) (by decide) (by decide) (fun q12 => ?_) (fun q12 => ?_)
  · replace hw := hw.1 q12
    refine z_lload_n C (i := 3) d_M_worthOf_320 rfl rfl ?_
    refine z_lload C d_M_worthOf_321 rfl ?_
    refine z_lcmp C d_M_worthOf_323 ?_
    refine z_if_le C (tgt := 331) d_M_worthOf_324 (by decide) (fun q => ?_) (fun q => ?_)
    · replace hw := hw.1 q
      refine z_iconst C (v := 0) d_M_worthOf_331 (by decide) ?_
      refine z_le (lv2 := [none, none, none, none, none, none, none]) (trivial) ?_
      exact w_M_worthOf_332 hG C hr _ _ hw
    · replace hw := hw.2 q
      refine z_iconst C (v := 1) d_M_worthOf_327 (by decide) ?_
      refine z_goto C (tgt := 332) d_M_worthOf_328 (by decide) ?_
      refine z_le (lv2 := [none, none, none, none, none, none, none]) (trivial) ?_
      exact w_M_worthOf_332 hG C hr _ _ hw
  replace hw := hw.2 q12
  refine z_lcase C (off := 191) (tgt := 253) (100 : Int32) d_M_worthOf_62 (by decide) (by decide) (by decide) (fun q13 => ?_) (fun q13 => ?_)
  · replace hw := hw.1 q13
    refine z_lload_n C (i := 3) d_M_worthOf_253 rfl rfl ?_
    refine z_lneg C d_M_worthOf_254 ?_
    exact z_lret C hr d_M_worthOf_255 hw
  replace hw := hw.2 q13
  refine z_lcase C (off := 274) (tgt := 336) (200 : Int32) d_M_worthOf_62 (by decide) (by decide) (by decide) (fun q14 => ?_) (fun q14 => ?_)
  · replace hw := hw.1 q14
    refine z_lload_n C (i := 3) d_M_worthOf_336 rfl rfl ?_
    refine z_lload C d_M_worthOf_337 rfl ?_
    refine z_lcmp C d_M_worthOf_339 ?_
    refine z_if_gt C (tgt := 347) d_M_worthOf_340 (by decide) (fun q => ?_) (fun q => ?_)
    · replace hw := hw.1 q
      refine z_iconst C (v := 0) d_M_worthOf_347 (by decide) ?_
      refine z_le (lv2 := [none, none, none, none, none, none, none]) (trivial) ?_
      exact w_M_worthOf_348 hG C hr _ _ hw
    · replace hw := hw.2 q
      refine z_iconst C (v := 1) d_M_worthOf_343 (by decide) ?_
      refine z_goto C (tgt := 348) d_M_worthOf_344 (by decide) ?_
      refine z_le (lv2 := [none, none, none, none, none, none, none]) (trivial) ?_
      exact w_M_worthOf_348 hG C hr _ _ hw
  replace hw := hw.2 q14
  refine z_lcase C (off := 290) (tgt := 352) (201 : Int32) d_M_worthOf_62 (by decide) (by decide) (by decide) (fun q15 => ?_) (fun q15 => ?_)
  · replace hw := hw.1 q15
    refine z_lload_n C (i := 3) d_M_worthOf_352 rfl rfl ?_
    refine z_lload C d_M_worthOf_353 rfl ?_
    refine z_lcmp C d_M_worthOf_355 ?_
    refine z_if_lt C (tgt := 363) d_M_worthOf_356 (by decide) (fun q => ?_) (fun q => ?_)
    · replace hw := hw.1 q
      refine z_iconst C (v := 0) d_M_worthOf_363 (by decide) ?_
      refine z_le (lv2 := [none, none, none, none, none, none, none]) (trivial) ?_
      exact w_M_worthOf_364 hG C hr _ _ hw
    · replace hw := hw.2 q
      refine z_iconst C (v := 1) d_M_worthOf_359 (by decide) ?_
      refine z_goto C (tgt := 364) d_M_worthOf_360 (by decide) ?_
      refine z_le (lv2 := [none, none, none, none, none, none, none]) (trivial) ?_
      exact w_M_worthOf_364 hG C hr _ _ hw
  replace hw := hw.2 q15
  refine z_lcase C (off := 306) (tgt := 368) (202 : Int32) d_M_worthOf_62 (by decide) (by decide) (by decide) (fun q16 => ?_) (fun q16 => ?_)
  · replace hw := hw.1 q16
    refine z_lload_n C (i := 3) d_M_worthOf_368 rfl rfl ?_
    refine z_lload C d_M_worthOf_369 rfl ?_
    refine z_lcmp C d_M_worthOf_371 ?_
    refine z_if_ne C (tgt := 379) d_M_worthOf_372 (by decide) (fun q => ?_) (fun q => ?_)
    · replace hw := hw.1 q
      refine z_iconst C (v := 0) d_M_worthOf_379 (by decide) ?_
      refine z_le (lv2 := [none, none, none, none, none, none, none]) (trivial) ?_
      exact w_M_worthOf_380 hG C hr _ _ hw
    · replace hw := hw.2 q
      refine z_iconst C (v := 1) d_M_worthOf_375 (by decide) ?_
      refine z_goto C (tgt := 380) d_M_worthOf_376 (by decide) ?_
      refine z_le (lv2 := [none, none, none, none, none, none, none]) (trivial) ?_
      exact w_M_worthOf_380 hG C hr _ _ hw
  replace hw := hw.2 q16
  refine z_lcase C (off := 322) (tgt := 384) (203 : Int32) d_M_worthOf_62 (by decide) (by decide) (by decide) (fun q17 => ?_) (fun q17 => ?_)
  · replace hw := hw.1 q17
    refine z_lload_n C (i := 3) d_M_worthOf_384 rfl rfl ?_
    refine z_lload C d_M_worthOf_385 rfl ?_
    refine z_lcmp C d_M_worthOf_387 ?_
    refine z_if_eq C (tgt := 395) d_M_worthOf_388 (by decide) (fun q => ?_) (fun q => ?_)
    · replace hw := hw.1 q
      refine z_iconst C (v := 0) d_M_worthOf_395 (by decide) ?_
      refine z_le (lv2 := [none, none, none, none, none, none, none]) (trivial) ?_
      exact w_M_worthOf_396 hG C hr _ _ hw
    · replace hw := hw.2 q
      refine z_iconst C (v := 1) d_M_worthOf_391 (by decide) ?_
      refine z_goto C (tgt := 396) d_M_worthOf_392 (by decide) ?_
      refine z_le (lv2 := [none, none, none, none, none, none, none]) (trivial) ?_
      exact w_M_worthOf_396 hG C hr _ _ hw
  replace hw := hw.2 q17
  refine z_lcase C (off := 338) (tgt := 400) (204 : Int32) d_M_worthOf_62 (by decide) (by decide) (by decide) (fun q18 => ?_) (fun q18 => ?_)
  · replace hw := hw.1 q18
    refine z_lload_n C (i := 3) d_M_worthOf_400 rfl rfl ?_
    refine z_lload C d_M_worthOf_401 rfl ?_
    refine z_lmul C d_M_worthOf_403 ?_
    exact z_lret C hr d_M_worthOf_404 hw
  replace hw := hw.2 q18
  refine z_lcase C (off := 343) (tgt := 405) (205 : Int32) d_M_worthOf_62 (by decide) (by decide) (by decide) (fun q19 => ?_) (fun q19 => ?_)
  · replace hw := hw.1 q19
    refine z_lload_n C (i := 3) d_M_worthOf_405 rfl rfl ?_
    refine z_lload C d_M_worthOf_406 rfl ?_
    refine z_callSl ⟨xN_ok, hG.1⟩ zT_good C (t_M_greater hG hw) ol_M_147 (by decide) (by decide) pl_M_greater rfl rfl (Nat.le_of_ble_eq_true rfl) d_M_worthOf_408 (fun r19 h20 hw => ?_)
    exact z_lret C hr d_M_worthOf_411 hw
  replace hw := hw.2 q19
  refine z_lookup C (off := 350) (tgt := 412) d_M_worthOf_62 (by decide) (by show Op.lookupswitch.offset [(2, 170), (3, 177), (4, 203), (5, 210), (6, 198), (33, 194), (37, 237), (42, 227), (43, 217), (45, 222), (47, 232), (60, 242), (62, 258), (100, 191), (200, 274), (201, 290), (202, 306), (203, 322), (204, 338), (205, 343)] (350) _ = (350); rw [lv_osw q0 (a := 2) rfl, lv_osw q1 (a := 3) rfl, lv_osw q2 (a := 4) rfl, lv_osw q3 (a := 5) rfl, lv_osw q4 (a := 6) rfl, lv_osw q5 (a := 33) rfl, lv_osw q6 (a := 37) rfl, lv_osw q7 (a := 42) rfl, lv_osw q8 (a := 43) rfl, lv_osw q9 (a := 45) rfl, lv_osw q10 (a := 47) rfl, lv_osw q11 (a := 60) rfl, lv_osw q12 (a := 62) rfl, lv_osw q13 (a := 100) rfl, lv_osw q14 (a := 200) rfl, lv_osw q15 (a := 201) rfl, lv_osw q16 (a := 202) rfl, lv_osw q17 (a := 203) rfl, lv_osw q18 (a := 204) rfl, lv_osw q19 (a := 205) rfl]; rfl) (by decide) ?_
  refine z_lload_n C (i := 3) d_M_worthOf_412 rfl rfl ?_
  refine z_lconst C (v := 1) d_M_worthOf_413 (by decide) ?_
  refine z_lcmp C d_M_worthOf_414 ?_
  refine z_if_ne C (tgt := 423) d_M_worthOf_415 (by decide) (fun q => ?_) (fun q => ?_)
  · replace hw := hw.1 q
    refine z_aload_n C (i := 0) d_M_worthOf_423 rfl rfl ?_
    refine z_getS C (ci := 8) (j := 34) (F := cf_M) (by decide) rfl rfl in_M (by decide) fl_M_65 rfl d_M_worthOf_424 ?_
    refine z_aload_n C (i := 0) d_M_worthOf_427 rfl rfl ?_
    refine z_getS C (ci := 8) (j := 19) (F := cf_M) (by decide) rfl rfl in_M (by decide) fl_M_44 rfl d_M_worthOf_428 ?_
    refine z_iload_n C (i := 2) d_M_worthOf_431 rfl rfl ?_
    refine z_iald C (by decide) rfl hw.1 d_M_worthOf_432 ?_
    replace hw := hw.2
    refine z_lald C (by decide) rfl hw.1 d_M_worthOf_433 ?_
    replace hw := hw.2
    refine z_le (lv2 := [none, none, none, none, none, none, none]) (trivial) ?_
    exact w_M_worthOf_434 hG C hr _ _ hw
  · replace hw := hw.2 q
    refine z_lload C d_M_worthOf_418 rfl ?_
    refine z_goto C (tgt := 434) d_M_worthOf_420 (by decide) ?_
    refine z_le (lv2 := [none, none, none, none, none, none, none]) (trivial) ?_
    exact w_M_worthOf_434 hG C hr _ _ hw
set_option maxRecDepth 100000 in
set_option maxHeartbeats 4000000 in
theorem w_M_worthOf_29 {l : Launch} {E : zE} {G : (Nat → Prop) → State → Prop} {p : Program} {e : Env} {s : State} {m : MethodId} {args : Array Value} {below : List Frame} {meth : Method} {c : Code} {A : Nat → Prop} {post : Int64 → zH → Prop} (hG : xGG E G) (C : zCx p s m args meth c E G A 1 23 prog_10_method_35_code 7 cn_M) (hr : meth.sig.returnType = (some .long))  (l2 : Int32) (s0 : Int64) (h : zH) (hw : b_M_worthOf_29 post l2 s0 h) : zGo p l e s m args below meth c E A 1 23 7 (zPl post) h 29 [some (.ref (E.2.2.1 39)), none, some (.int l2), none, none, none, none] [.long s0] := by
  unfold b_M_worthOf_29 at hw
  refine z_lstore_n C (i := 3) d_M_worthOf_29 rfl (by decide) rfl ?_
  refine z_aload_n C (i := 0) d_M_worthOf_30 rfl rfl ?_
  refine z_getS C (ci := 8) (j := 18) (F := cf_M) (by decide) rfl rfl in_M (by decide) fl_M_41 rfl d_M_worthOf_31 ?_
  refine z_iload_n C (i := 2) d_M_worthOf_34 rfl rfl ?_
  refine z_iald C (by decide) rfl hw.1 d_M_worthOf_35 ?_
  replace hw := hw.2
  refine z_if_ge C (tgt := 43) d_M_worthOf_36 (by decide) (fun q => ?_) (fun q => ?_)
  · replace hw := hw.1 q
    refine z_aload_n C (i := 0) d_M_worthOf_43 rfl rfl ?_
    refine z_getS C (ci := 8) (j := 34) (F := cf_M) (by decide) rfl rfl in_M (by decide) fl_M_65 rfl d_M_worthOf_44 ?_
    refine z_aload_n C (i := 0) d_M_worthOf_47 rfl rfl ?_
    refine z_getS C (ci := 8) (j := 18) (F := cf_M) (by decide) rfl rfl in_M (by decide) fl_M_41 rfl d_M_worthOf_48 ?_
    refine z_iload_n C (i := 2) d_M_worthOf_51 rfl rfl ?_
    refine z_iald C (by decide) rfl hw.1 d_M_worthOf_52 ?_
    replace hw := hw.2
    refine z_lald C (by decide) rfl hw.1 d_M_worthOf_53 ?_
    replace hw := hw.2
    refine z_le (lv2 := [some (.ref (E.2.2.1 39)), none, some (.int l2), some (.long s0), none, none, none]) (⟨rfl, ⟨rfl, ⟨rfl, trivial⟩⟩⟩) ?_
    exact w_M_worthOf_54 hG C hr _ _ _ _ hw
  · replace hw := hw.2 q
    refine z_lconst C (v := 0) d_M_worthOf_39 (by decide) ?_
    refine z_goto C (tgt := 54) d_M_worthOf_40 (by decide) ?_
    refine z_le (lv2 := [some (.ref (E.2.2.1 39)), none, some (.int l2), some (.long s0), none, none, none]) (⟨rfl, ⟨rfl, ⟨rfl, trivial⟩⟩⟩) ?_
    exact w_M_worthOf_54 hG C hr _ _ _ _ hw
set_option maxRecDepth 100000 in
set_option maxHeartbeats 4000000 in
theorem t_M_worthOf {l : Launch} {E : zE} {G : (Nat → Prop) → State → Prop} (hG : xGG E G) {l1 : Int32} {h : zH} {post : Int64 → zH → Prop} (hw : wp_M_worthOf l1 h post) : Ct l xX E xcl xN zT G 1 23 y_M_worthOf prog_10_method_35_code 7 (some .long) [.ref (E.2.2.1 39), .int l1] h (zPl post) := by
  unfold wp_M_worthOf at hw
  refine Ct.of (by decide) (Nat.le_of_ble_eq_true rfl) ?_
  intro p e s m below meth c A C hr
  refine z_lv (lv2 := [some (.ref (E.2.2.1 39)), some (.int l1), none, none, none, none, none]) rfl ?_
  refine z_bipush C (v := 100) d_M_worthOf_0 (by decide) ?_
  refine z_iload_n C (i := 1) d_M_worthOf_2 rfl rfl ?_
  refine z_iadd C d_M_worthOf_3 ?_
  refine z_istore_n C (i := 2) d_M_worthOf_4 rfl (by decide) rfl ?_
  refine z_aload_n C (i := 0) d_M_worthOf_5 rfl rfl ?_
  refine z_getS C (ci := 8) (j := 17) (F := cf_M) (by decide) rfl rfl in_M (by decide) fl_M_38 rfl d_M_worthOf_6 ?_
  refine z_iload_n C (i := 2) d_M_worthOf_9 rfl rfl ?_
  refine z_iald C (by decide) rfl hw.1 d_M_worthOf_10 ?_
  replace hw := hw.2
  refine z_if_ge C (tgt := 18) d_M_worthOf_11 (by decide) (fun q => ?_) (fun q => ?_)
  · replace hw := hw.1 q
    refine z_aload_n C (i := 0) d_M_worthOf_18 rfl rfl ?_
    refine z_getS C (ci := 8) (j := 34) (F := cf_M) (by decide) rfl rfl in_M (by decide) fl_M_65 rfl d_M_worthOf_19 ?_
    refine z_aload_n C (i := 0) d_M_worthOf_22 rfl rfl ?_
    refine z_getS C (ci := 8) (j := 17) (F := cf_M) (by decide) rfl rfl in_M (by decide) fl_M_38 rfl d_M_worthOf_23 ?_
    refine z_iload_n C (i := 2) d_M_worthOf_26 rfl rfl ?_
    refine z_iald C (by decide) rfl hw.1 d_M_worthOf_27 ?_
    replace hw := hw.2
    refine z_lald C (by decide) rfl hw.1 d_M_worthOf_28 ?_
    replace hw := hw.2
    refine z_le (lv2 := [some (.ref (E.2.2.1 39)), none, some (.int (100 + l1)), none, none, none, none]) (⟨rfl, ⟨rfl, trivial⟩⟩) ?_
    exact w_M_worthOf_29 hG C hr _ _ _ hw
  · replace hw := hw.2 q
    refine z_lconst C (v := 0) d_M_worthOf_14 (by decide) ?_
    refine z_goto C (tgt := 29) d_M_worthOf_15 (by decide) ?_
    refine z_le (lv2 := [some (.ref (E.2.2.1 39)), none, some (.int (100 + l1)), none, none, none, none]) (⟨rfl, ⟨rfl, trivial⟩⟩) ?_
    exact w_M_worthOf_29 hG C hr _ _ _ hw
theorem d_M_value_0 : decode prog_10_method_36_code 0 = .ok (.aload_n 0, 1) := by decide +kernel
theorem d_M_value_1 : decode prog_10_method_36_code 1 = .ok (.iload_n 1, 1) := by decide +kernel
theorem d_M_value_2 : decode prog_10_method_36_code 2 = .ok (.ifCond .lt (11), 3) := by decide +kernel
theorem d_M_value_5 : decode prog_10_method_36_code 5 = .ok (.iload_n 1, 1) := by decide +kernel
theorem d_M_value_6 : decode prog_10_method_36_code 6 = .ok (.aload_n 0, 1) := by decide +kernel
theorem d_M_value_7 : decode prog_10_method_36_code 7 = .ok (.getfield 212, 3) := by decide +kernel
theorem d_M_value_10 : decode prog_10_method_36_code 10 = .ok (.if_icmp .lt (7), 3) := by decide +kernel
theorem d_M_value_13 : decode prog_10_method_36_code 13 = .ok (.iconst 1, 1) := by decide +kernel
theorem d_M_value_14 : decode prog_10_method_36_code 14 = .ok (.goto (4), 3) := by decide +kernel
theorem d_M_value_17 : decode prog_10_method_36_code 17 = .ok (.iconst 0, 1) := by decide +kernel
theorem d_M_value_18 : decode prog_10_method_36_code 18 = .ok (.putfield 68, 3) := by decide +kernel
theorem d_M_value_21 : decode prog_10_method_36_code 21 = .ok (.aload_n 0, 1) := by decide +kernel
theorem d_M_value_22 : decode prog_10_method_36_code 22 = .ok (.getfield 68, 3) := by decide +kernel
theorem d_M_value_25 : decode prog_10_method_36_code 25 = .ok (.ifCond .le (5), 3) := by decide +kernel
theorem d_M_value_28 : decode prog_10_method_36_code 28 = .ok (.lconst 0, 1) := by decide +kernel
theorem d_M_value_29 : decode prog_10_method_36_code 29 = .ok (.lreturn, 1) := by decide +kernel
theorem d_M_value_30 : decode prog_10_method_36_code 30 = .ok (.iconst 0, 1) := by decide +kernel
theorem d_M_value_31 : decode prog_10_method_36_code 31 = .ok (.istore_n 2, 1) := by decide +kernel
theorem d_M_value_32 : decode prog_10_method_36_code 32 = .ok (.iload_n 2, 1) := by decide +kernel
theorem d_M_value_33 : decode prog_10_method_36_code 33 = .ok (.iload_n 1, 1) := by decide +kernel
theorem d_M_value_34 : decode prog_10_method_36_code 34 = .ok (.if_icmp .gt (20), 3) := by decide +kernel
theorem d_M_value_37 : decode prog_10_method_36_code 37 = .ok (.aload_n 0, 1) := by decide +kernel
theorem d_M_value_38 : decode prog_10_method_36_code 38 = .ok (.getfield 65, 3) := by decide +kernel
theorem d_M_value_41 : decode prog_10_method_36_code 41 = .ok (.iload_n 2, 1) := by decide +kernel
theorem d_M_value_42 : decode prog_10_method_36_code 42 = .ok (.aload_n 0, 1) := by decide +kernel
theorem d_M_value_43 : decode prog_10_method_36_code 43 = .ok (.iload_n 2, 1) := by decide +kernel
theorem d_M_value_44 : decode prog_10_method_36_code 44 = .ok (.invokevirtual 219, 3) := by decide +kernel
theorem d_M_value_47 : decode prog_10_method_36_code 47 = .ok (.lastore, 1) := by decide +kernel
theorem d_M_value_48 : decode prog_10_method_36_code 48 = .ok (.iinc 2 (1), 3) := by decide +kernel
theorem d_M_value_51 : decode prog_10_method_36_code 51 = .ok (.goto (-19), 3) := by decide +kernel
theorem d_M_value_54 : decode prog_10_method_36_code 54 = .ok (.aload_n 0, 1) := by decide +kernel
theorem d_M_value_55 : decode prog_10_method_36_code 55 = .ok (.getfield 65, 3) := by decide +kernel
theorem d_M_value_58 : decode prog_10_method_36_code 58 = .ok (.iload_n 1, 1) := by decide +kernel
theorem d_M_value_59 : decode prog_10_method_36_code 59 = .ok (.laload, 1) := by decide +kernel
theorem d_M_value_60 : decode prog_10_method_36_code 60 = .ok (.lreturn, 1) := by decide +kernel
def b_M_value_32 (post : Int64 → zH → Prop) : Nat → Int32 → Int32 → zH → Prop
  | 0, _, _, _ => False
  | n + 1, l1, l2, h => (fun rc : Int32 → Int32 → zH → Prop => ((l1 < l2 → (vp_in l1 100 ∧ post (h.2.1 58 (l1 : Int32).toNatClampNeg) h)) ∧ (¬ l1 < l2 → wp_M_worthOf (l2) h (fun (r1 : Int64) (h2 : zH) => (vp_in l2 100 ∧ ∀ h3 : zH, h3 = zl h2 58 (l2 : Int32).toNatClampNeg r1 → rc (l1) ((l2 + 1)) h3))))) (b_M_value_32 post n)
def b_M_value_18 (post : Int64 → zH → Prop) (l1 : Int32) (s0 : Int32) (h : zH) : Prop := (∀ h4 : zH, h4 = zi h 39 0 s0 → (((h4.1 39 0) ≤ 0 → (∃ n : Nat, b_M_value_32 post n (l1) (0) h4)) ∧ (¬ (h4.1 39 0) ≤ 0 → post 0 h4)))
def b_M_value_13 (post : Int64 → zH → Prop) (l1 : Int32) (h : zH) : Prop := b_M_value_18 post (l1) (1) h
def wp_M_value (l1 : Int32) (h : zH) (post : Int64 → zH → Prop) : Prop := ((l1 < 0 → b_M_value_13 post (l1) h) ∧ (¬ l1 < 0 → ((l1 < (h.1 39 23) → b_M_value_18 post (l1) (0) h) ∧ (¬ l1 < (h.1 39 23) → b_M_value_13 post (l1) h))))
set_option maxRecDepth 100000 in
set_option maxHeartbeats 4000000 in
theorem w_M_value_32 {l : Launch} {E : zE} {G : (Nat → Prop) → State → Prop} {p : Program} {e : Env} {s : State} {m : MethodId} {args : Array Value} {below : List Frame} {meth : Method} {c : Code} {A : Nat → Prop} {post : Int64 → zH → Prop} (hG : xGG E G) (C : zCx p s m args meth c E G A 2 49 prog_10_method_36_code 3 cn_M) (hr : meth.sig.returnType = (some .long)) : ∀ (n : Nat) (l1 : Int32) (l2 : Int32) (h : zH), b_M_value_32 post n l1 l2 h → zGo p l e s m args below meth c E A 2 49 3 (zPl post) h 32 [some (.ref (E.2.2.1 39)), some (.int l1), some (.int l2)] [] := by
  intro n
  induction n with
  | zero => intro l1 l2 h hw; exact False.elim hw
  | succ n hrc =>
    intro l1 l2 h hw
    unfold b_M_value_32 at hw
    refine z_iload_n C (i := 2) d_M_value_32 rfl rfl ?_
    refine z_iload_n C (i := 1) d_M_value_33 rfl rfl ?_
    refine z_icmp_gt C (tgt := 54) d_M_value_34 (by decide) (fun q => ?_) (fun q => ?_)
    · replace hw := hw.1 q
      refine z_aload_n C (i := 0) d_M_value_54 rfl rfl ?_
      refine z_getS C (ci := 8) (j := 34) (F := cf_M) (by decide) rfl rfl in_M (by decide) fl_M_65 rfl d_M_value_55 ?_
      refine z_iload_n C (i := 1) d_M_value_58 rfl rfl ?_
      refine z_lald C (by decide) rfl hw.1 d_M_value_59 ?_
      replace hw := hw.2
      exact z_lret C hr d_M_value_60 hw
    · replace hw := hw.2 q
      refine z_aload_n C (i := 0) d_M_value_37 rfl rfl ?_
      refine z_getS C (ci := 8) (j := 34) (F := cf_M) (by decide) rfl rfl in_M (by decide) fl_M_65 rfl d_M_value_38 ?_
      refine z_iload_n C (i := 2) d_M_value_41 rfl rfl ?_
      refine z_aload_n C (i := 0) d_M_value_42 rfl rfl ?_
      refine z_iload_n C (i := 2) d_M_value_43 rfl rfl ?_
      refine z_callVl ⟨xN_ok, hG.1⟩ zT_good C (t_M_worthOf hG hw) ol_M_219 (by decide) rfl rfl (by decide) (by decide) pl_M_worthOf rfl rfl (Nat.le_of_ble_eq_true rfl) d_M_value_44 (fun r1 h2 hw => ?_)
      refine z_last C (by decide) rfl hw.1 d_M_value_47 (fun h3 eh3 => ?_)
      replace hw := hw.2 h3 eh3
      refine z_iinc C (v := l2 + 1) d_M_value_48 rfl rfl (by decide) rfl ?_
      refine z_goto C (tgt := 32) d_M_value_51 (by decide) ?_
      refine z_le (lv2 := [some (.ref (E.2.2.1 39)), some (.int l1), some (.int (l2 + 1))]) (⟨rfl, ⟨rfl, ⟨rfl, trivial⟩⟩⟩) ?_
      exact hrc _ _ _ hw
set_option maxRecDepth 100000 in
set_option maxHeartbeats 4000000 in
theorem w_M_value_18 {l : Launch} {E : zE} {G : (Nat → Prop) → State → Prop} {p : Program} {e : Env} {s : State} {m : MethodId} {args : Array Value} {below : List Frame} {meth : Method} {c : Code} {A : Nat → Prop} {post : Int64 → zH → Prop} (hG : xGG E G) (C : zCx p s m args meth c E G A 2 49 prog_10_method_36_code 3 cn_M) (hr : meth.sig.returnType = (some .long))  (l1 : Int32) (s0 : Int32) (h : zH) (hw : b_M_value_18 post l1 s0 h) : zGo p l e s m args below meth c E A 2 49 3 (zPl post) h 18 [some (.ref (E.2.2.1 39)), some (.int l1), none] [.int s0, .ref (E.2.2.1 39)] := by
  unfold b_M_value_18 at hw
  refine z_putI C (ci := 8) (j := 0) (F := cf_M) ct_M (by decide) rfl rfl in_M ty_M nm_M (by decide) fl_M_68 rfl (by decide +kernel) rfl d_M_value_18 (fun h4 eh4 => ?_)
  replace hw := hw h4 eh4
  refine z_aload_n C (i := 0) d_M_value_21 rfl rfl ?_
  refine z_getI C (ci := 8) (j := 0) (F := cf_M) (by decide) rfl rfl in_M (by decide) fl_M_68 rfl d_M_value_22 ?_
  refine z_if_le C (tgt := 30) d_M_value_25 (by decide) (fun q => ?_) (fun q => ?_)
  · replace hw := hw.1 q
    refine z_iconst C (v := 0) d_M_value_30 (by decide) ?_
    refine z_istore_n C (i := 2) d_M_value_31 rfl (by decide) rfl ?_
    refine z_le (lv2 := [some (.ref (E.2.2.1 39)), some (.int l1), some (.int 0)]) (⟨rfl, ⟨rfl, ⟨rfl, trivial⟩⟩⟩) ?_
    obtain ⟨n, hw⟩ := hw
    exact w_M_value_32 hG C hr n _ _ _ hw
  · replace hw := hw.2 q
    refine z_lconst C (v := 0) d_M_value_28 (by decide) ?_
    exact z_lret C hr d_M_value_29 hw
set_option maxRecDepth 100000 in
set_option maxHeartbeats 4000000 in
theorem w_M_value_13 {l : Launch} {E : zE} {G : (Nat → Prop) → State → Prop} {p : Program} {e : Env} {s : State} {m : MethodId} {args : Array Value} {below : List Frame} {meth : Method} {c : Code} {A : Nat → Prop} {post : Int64 → zH → Prop} (hG : xGG E G) (C : zCx p s m args meth c E G A 2 49 prog_10_method_36_code 3 cn_M) (hr : meth.sig.returnType = (some .long))  (l1 : Int32) (h : zH) (hw : b_M_value_13 post l1 h) : zGo p l e s m args below meth c E A 2 49 3 (zPl post) h 13 [some (.ref (E.2.2.1 39)), some (.int l1), none] [.ref (E.2.2.1 39)] := by
  unfold b_M_value_13 at hw
  refine z_iconst C (v := 1) d_M_value_13 (by decide) ?_
  refine z_goto C (tgt := 18) d_M_value_14 (by decide) ?_
  refine z_le (lv2 := [some (.ref (E.2.2.1 39)), some (.int l1), none]) (⟨rfl, ⟨rfl, trivial⟩⟩) ?_
  exact w_M_value_18 hG C hr _ _ _ hw
set_option maxRecDepth 100000 in
set_option maxHeartbeats 4000000 in
theorem t_M_value {l : Launch} {E : zE} {G : (Nat → Prop) → State → Prop} (hG : xGG E G) {l1 : Int32} {h : zH} {post : Int64 → zH → Prop} (hw : wp_M_value l1 h post) : Ct l xX E xcl xN zT G 2 49 y_M_value prog_10_method_36_code 3 (some .long) [.ref (E.2.2.1 39), .int l1] h (zPl post) := by
  unfold wp_M_value at hw
  refine Ct.of (by decide) (Nat.le_of_ble_eq_true rfl) ?_
  intro p e s m below meth c A C hr
  refine z_lv (lv2 := [some (.ref (E.2.2.1 39)), some (.int l1), none]) rfl ?_
  refine z_aload_n C (i := 0) d_M_value_0 rfl rfl ?_
  refine z_iload_n C (i := 1) d_M_value_1 rfl rfl ?_
  refine z_if_lt C (tgt := 13) d_M_value_2 (by decide) (fun q => ?_) (fun q => ?_)
  · replace hw := hw.1 q
    refine z_le (lv2 := [some (.ref (E.2.2.1 39)), some (.int l1), none]) (⟨rfl, ⟨rfl, trivial⟩⟩) ?_
    exact w_M_value_13 hG C hr _ _ hw
  · replace hw := hw.2 q
    refine z_iload_n C (i := 1) d_M_value_5 rfl rfl ?_
    refine z_aload_n C (i := 0) d_M_value_6 rfl rfl ?_
    refine z_getI C (ci := 8) (j := 23) (F := cf_M) (by decide) rfl rfl in_M (by decide) fl_M_212 rfl d_M_value_7 ?_
    refine z_icmp_lt C (tgt := 17) d_M_value_10 (by decide) (fun q => ?_) (fun q => ?_)
    · replace hw := hw.1 q
      refine z_iconst C (v := 0) d_M_value_17 (by decide) ?_
      refine z_le (lv2 := [some (.ref (E.2.2.1 39)), some (.int l1), none]) (⟨rfl, ⟨rfl, trivial⟩⟩) ?_
      exact w_M_value_18 hG C hr _ _ _ hw
    · replace hw := hw.2 q
      refine z_le (lv2 := [some (.ref (E.2.2.1 39)), some (.int l1), none]) (⟨rfl, ⟨rfl, trivial⟩⟩) ?_
      exact w_M_value_13 hG C hr _ _ hw
theorem d_M_variable_0 : decode prog_10_method_3_code 0 = .ok (.aload_n 0, 1) := by decide +kernel
theorem d_M_variable_1 : decode prog_10_method_3_code 1 = .ok (.iconst 0, 1) := by decide +kernel
theorem d_M_variable_2 : decode prog_10_method_3_code 2 = .ok (.putfield 68, 3) := by decide +kernel
theorem d_M_variable_5 : decode prog_10_method_3_code 5 = .ok (.aload_n 0, 1) := by decide +kernel
theorem d_M_variable_6 : decode prog_10_method_3_code 6 = .ok (.getfield 72, 3) := by decide +kernel
theorem d_M_variable_9 : decode prog_10_method_3_code 9 = .ok (.bipush (20), 2) := by decide +kernel
theorem d_M_variable_11 : decode prog_10_method_3_code 11 = .ok (.if_icmp .eq (26), 3) := by decide +kernel
theorem d_M_variable_14 : decode prog_10_method_3_code 14 = .ok (.iload_n 2, 1) := by decide +kernel
theorem d_M_variable_15 : decode prog_10_method_3_code 15 = .ok (.iload_n 1, 1) := by decide +kernel
theorem d_M_variable_16 : decode prog_10_method_3_code 16 = .ok (.if_icmp .lt (21), 3) := by decide +kernel
theorem d_M_variable_19 : decode prog_10_method_3_code 19 = .ok (.iload_n 1, 1) := by decide +kernel
theorem d_M_variable_20 : decode prog_10_method_3_code 20 = .ok (.i2l, 1) := by decide +kernel
theorem d_M_variable_21 : decode prog_10_method_3_code 21 = .ok (.ldc2_w 75, 3) := by decide +kernel
theorem d_M_variable_24 : decode prog_10_method_3_code 24 = .ok (.lcmp, 1) := by decide +kernel
theorem d_M_variable_25 : decode prog_10_method_3_code 25 = .ok (.ifCond .lt (12), 3) := by decide +kernel
theorem d_M_variable_28 : decode prog_10_method_3_code 28 = .ok (.iload_n 2, 1) := by decide +kernel
theorem d_M_variable_29 : decode prog_10_method_3_code 29 = .ok (.i2l, 1) := by decide +kernel
theorem d_M_variable_30 : decode prog_10_method_3_code 30 = .ok (.ldc2_w 77, 3) := by decide +kernel
theorem d_M_variable_33 : decode prog_10_method_3_code 33 = .ok (.lcmp, 1) := by decide +kernel
theorem d_M_variable_34 : decode prog_10_method_3_code 34 = .ok (.ifCond .le (5), 3) := by decide +kernel
theorem d_M_variable_37 : decode prog_10_method_3_code 37 = .ok (.iconst (-1), 1) := by decide +kernel
theorem d_M_variable_38 : decode prog_10_method_3_code 38 = .ok (.ireturn, 1) := by decide +kernel
theorem d_M_variable_39 : decode prog_10_method_3_code 39 = .ok (.aload_n 0, 1) := by decide +kernel
theorem d_M_variable_40 : decode prog_10_method_3_code 40 = .ok (.getfield 7, 3) := by decide +kernel
theorem d_M_variable_43 : decode prog_10_method_3_code 43 = .ok (.aload_n 0, 1) := by decide +kernel
theorem d_M_variable_44 : decode prog_10_method_3_code 44 = .ok (.getfield 72, 3) := by decide +kernel
theorem d_M_variable_47 : decode prog_10_method_3_code 47 = .ok (.iload_n 1, 1) := by decide +kernel
theorem d_M_variable_48 : decode prog_10_method_3_code 48 = .ok (.iastore, 1) := by decide +kernel
theorem d_M_variable_49 : decode prog_10_method_3_code 49 = .ok (.aload_n 0, 1) := by decide +kernel
theorem d_M_variable_50 : decode prog_10_method_3_code 50 = .ok (.getfield 13, 3) := by decide +kernel
theorem d_M_variable_53 : decode prog_10_method_3_code 53 = .ok (.aload_n 0, 1) := by decide +kernel
theorem d_M_variable_54 : decode prog_10_method_3_code 54 = .ok (.getfield 72, 3) := by decide +kernel
theorem d_M_variable_57 : decode prog_10_method_3_code 57 = .ok (.iload_n 2, 1) := by decide +kernel
theorem d_M_variable_58 : decode prog_10_method_3_code 58 = .ok (.iastore, 1) := by decide +kernel
theorem d_M_variable_59 : decode prog_10_method_3_code 59 = .ok (.aload_n 0, 1) := by decide +kernel
theorem d_M_variable_60 : decode prog_10_method_3_code 60 = .ok (.getfield 16, 3) := by decide +kernel
theorem d_M_variable_63 : decode prog_10_method_3_code 63 = .ok (.aload_n 0, 1) := by decide +kernel
theorem d_M_variable_64 : decode prog_10_method_3_code 64 = .ok (.getfield 72, 3) := by decide +kernel
theorem d_M_variable_67 : decode prog_10_method_3_code 67 = .ok (.iload_n 1, 1) := by decide +kernel
theorem d_M_variable_68 : decode prog_10_method_3_code 68 = .ok (.ifCond .le (7), 3) := by decide +kernel
theorem d_M_variable_71 : decode prog_10_method_3_code 71 = .ok (.iload_n 1, 1) := by decide +kernel
theorem d_M_variable_72 : decode prog_10_method_3_code 72 = .ok (.goto (12), 3) := by decide +kernel
theorem d_M_variable_75 : decode prog_10_method_3_code 75 = .ok (.iload_n 2, 1) := by decide +kernel
theorem d_M_variable_76 : decode prog_10_method_3_code 76 = .ok (.ifCond .ge (7), 3) := by decide +kernel
theorem d_M_variable_79 : decode prog_10_method_3_code 79 = .ok (.iload_n 2, 1) := by decide +kernel
theorem d_M_variable_80 : decode prog_10_method_3_code 80 = .ok (.goto (4), 3) := by decide +kernel
theorem d_M_variable_83 : decode prog_10_method_3_code 83 = .ok (.iconst 0, 1) := by decide +kernel
theorem d_M_variable_84 : decode prog_10_method_3_code 84 = .ok (.iastore, 1) := by decide +kernel
theorem d_M_variable_85 : decode prog_10_method_3_code 85 = .ok (.aload_n 0, 1) := by decide +kernel
theorem d_M_variable_86 : decode prog_10_method_3_code 86 = .ok (.dup, 1) := by decide +kernel
theorem d_M_variable_87 : decode prog_10_method_3_code 87 = .ok (.getfield 72, 3) := by decide +kernel
theorem d_M_variable_90 : decode prog_10_method_3_code 90 = .ok (.iconst 1, 1) := by decide +kernel
theorem d_M_variable_91 : decode prog_10_method_3_code 91 = .ok (.iadd, 1) := by decide +kernel
theorem d_M_variable_92 : decode prog_10_method_3_code 92 = .ok (.putfield 72, 3) := by decide +kernel
theorem d_M_variable_95 : decode prog_10_method_3_code 95 = .ok (.aload_n 0, 1) := by decide +kernel
theorem d_M_variable_96 : decode prog_10_method_3_code 96 = .ok (.getfield 72, 3) := by decide +kernel
theorem d_M_variable_99 : decode prog_10_method_3_code 99 = .ok (.iconst 1, 1) := by decide +kernel
theorem d_M_variable_100 : decode prog_10_method_3_code 100 = .ok (.isub, 1) := by decide +kernel
theorem d_M_variable_101 : decode prog_10_method_3_code 101 = .ok (.ireturn, 1) := by decide +kernel
def b_M_variable_37 (post : Int32 → zH → Prop) (h : zH) : Prop := post (-1) h
def b_M_variable_84 (post : Int32 → zH → Prop) (s0 : Int32) (s1 : Int32) (h : zH) : Prop := (vp_in s1 20 ∧ ∀ h1 : zH, h1 = zi h 42 (s1 : Int32).toNatClampNeg s0 → (∀ h2 : zH, h2 = zi h1 39 1 ((h1.1 39 1) + 1) → post ((h2.1 39 1) - 1) h2))
def wp_M_variable (l1 : Int32) (l2 : Int32) (h : zH) (post : Int32 → zH → Prop) : Prop := (∀ h3 : zH, h3 = zi h 39 0 0 → (((h3.1 39 1) = 20 → b_M_variable_37 post  h3) ∧ (¬ (h3.1 39 1) = 20 → ((l2 < l1 → b_M_variable_37 post  h3) ∧ (¬ l2 < l1 → (((lg_cmp (l1 : Int32).toInt64 (-2000000000)) < 0 → b_M_variable_37 post  h3) ∧ (¬ (lg_cmp (l1 : Int32).toInt64 (-2000000000)) < 0 → (((lg_cmp (l2 : Int32).toInt64 2000000000) ≤ 0 → (vp_in (h3.1 39 1) 20 ∧ ∀ h4 : zH, h4 = zi h3 40 ((h3.1 39 1) : Int32).toNatClampNeg l1 → (vp_in (h4.1 39 1) 20 ∧ ∀ h5 : zH, h5 = zi h4 41 ((h4.1 39 1) : Int32).toNatClampNeg l2 → ((l1 ≤ 0 → ((0 ≤ l2 → b_M_variable_84 post (0) ((h5.1 39 1)) h5) ∧ (¬ 0 ≤ l2 → b_M_variable_84 post (l2) ((h5.1 39 1)) h5))) ∧ (¬ l1 ≤ 0 → b_M_variable_84 post (l1) ((h5.1 39 1)) h5))))) ∧ (¬ (lg_cmp (l2 : Int32).toInt64 2000000000) ≤ 0 → b_M_variable_37 post  h3)))))))))
set_option maxRecDepth 100000 in
set_option maxHeartbeats 4000000 in
theorem w_M_variable_37 {l : Launch} {E : zE} {G : (Nat → Prop) → State → Prop} {p : Program} {e : Env} {s : State} {m : MethodId} {args : Array Value} {below : List Frame} {meth : Method} {c : Code} {A : Nat → Prop} {post : Int32 → zH → Prop} (hG : xGG E G) (C : zCx p s m args meth c E G A 0 0 prog_10_method_3_code 3 cn_M) (hr : meth.sig.returnType = (some .int))  (h : zH) (hw : b_M_variable_37 post  h) : zGo p l e s m args below meth c E A 0 0 3 (zPi post) h 37 [none, none, none] [] := by
  unfold b_M_variable_37 at hw
  refine z_iconst C (v := (-1)) d_M_variable_37 (by decide) ?_
  exact z_iret C hr d_M_variable_38 hw
set_option maxRecDepth 100000 in
set_option maxHeartbeats 4000000 in
theorem w_M_variable_84 {l : Launch} {E : zE} {G : (Nat → Prop) → State → Prop} {p : Program} {e : Env} {s : State} {m : MethodId} {args : Array Value} {below : List Frame} {meth : Method} {c : Code} {A : Nat → Prop} {post : Int32 → zH → Prop} (hG : xGG E G) (C : zCx p s m args meth c E G A 0 0 prog_10_method_3_code 3 cn_M) (hr : meth.sig.returnType = (some .int))  (s0 : Int32) (s1 : Int32) (h : zH) (hw : b_M_variable_84 post s0 s1 h) : zGo p l e s m args below meth c E A 0 0 3 (zPi post) h 84 [some (.ref (E.2.2.1 39)), none, none] [.int s0, .int s1, .ref (E.2.2.1 42)] := by
  unfold b_M_variable_84 at hw
  refine z_iast C (by decide) rfl hw.1 d_M_variable_84 (fun h1 eh1 => ?_)
  replace hw := hw.2 h1 eh1
  refine z_aload_n C (i := 0) d_M_variable_85 rfl rfl ?_
  refine z_dup C d_M_variable_86 rfl ?_
  refine z_getI C (ci := 8) (j := 1) (F := cf_M) (by decide) rfl rfl in_M (by decide) fl_M_72 rfl d_M_variable_87 ?_
  refine z_iconst C (v := 1) d_M_variable_90 (by decide) ?_
  refine z_iadd C d_M_variable_91 ?_
  refine z_putI C (ci := 8) (j := 1) (F := cf_M) ct_M (by decide) rfl rfl in_M ty_M nm_M (by decide) fl_M_72 rfl (by decide +kernel) rfl d_M_variable_92 (fun h2 eh2 => ?_)
  replace hw := hw h2 eh2
  refine z_aload_n C (i := 0) d_M_variable_95 rfl rfl ?_
  refine z_getI C (ci := 8) (j := 1) (F := cf_M) (by decide) rfl rfl in_M (by decide) fl_M_72 rfl d_M_variable_96 ?_
  refine z_iconst C (v := 1) d_M_variable_99 (by decide) ?_
  refine z_isub C d_M_variable_100 ?_
  exact z_iret C hr d_M_variable_101 hw
set_option maxRecDepth 100000 in
set_option maxHeartbeats 4000000 in
theorem t_M_variable {l : Launch} {E : zE} {G : (Nat → Prop) → State → Prop} (hG : xGG E G) {l1 : Int32} {l2 : Int32} {h : zH} {post : Int32 → zH → Prop} (hw : wp_M_variable l1 l2 h post) : Ct l xX E xcl xN zT G 0 0 y_M_variable prog_10_method_3_code 3 (some .int) [.ref (E.2.2.1 39), .int l1, .int l2] h (zPi post) := by
  unfold wp_M_variable at hw
  refine Ct.of (by decide) (Nat.le_of_ble_eq_true rfl) ?_
  intro p e s m below meth c A C hr
  refine z_lv (lv2 := [some (.ref (E.2.2.1 39)), some (.int l1), some (.int l2)]) rfl ?_
  refine z_aload_n C (i := 0) d_M_variable_0 rfl rfl ?_
  refine z_iconst C (v := 0) d_M_variable_1 (by decide) ?_
  refine z_putI C (ci := 8) (j := 0) (F := cf_M) ct_M (by decide) rfl rfl in_M ty_M nm_M (by decide) fl_M_68 rfl (by decide +kernel) rfl d_M_variable_2 (fun h3 eh3 => ?_)
  replace hw := hw h3 eh3
  refine z_aload_n C (i := 0) d_M_variable_5 rfl rfl ?_
  refine z_getI C (ci := 8) (j := 1) (F := cf_M) (by decide) rfl rfl in_M (by decide) fl_M_72 rfl d_M_variable_6 ?_
  refine z_bipush C (v := 20) d_M_variable_9 (by decide) ?_
  refine z_icmp_eq C (tgt := 37) d_M_variable_11 (by decide) (fun q => ?_) (fun q => ?_)
  · replace hw := hw.1 q
    refine z_le (lv2 := [none, none, none]) (trivial) ?_
    exact w_M_variable_37 hG C hr  _ hw
  · replace hw := hw.2 q
    refine z_iload_n C (i := 2) d_M_variable_14 rfl rfl ?_
    refine z_iload_n C (i := 1) d_M_variable_15 rfl rfl ?_
    refine z_icmp_lt C (tgt := 37) d_M_variable_16 (by decide) (fun q => ?_) (fun q => ?_)
    · replace hw := hw.1 q
      refine z_le (lv2 := [none, none, none]) (trivial) ?_
      exact w_M_variable_37 hG C hr  _ hw
    · replace hw := hw.2 q
      refine z_iload_n C (i := 1) d_M_variable_19 rfl rfl ?_
      refine z_i2l C d_M_variable_20 ?_
      refine z_ldc2 C (v := (-2000000000)) kl_M_75 d_M_variable_21 ?_
      refine z_lcmp C d_M_variable_24 ?_
      refine z_if_lt C (tgt := 37) d_M_variable_25 (by decide) (fun q => ?_) (fun q => ?_)
      · replace hw := hw.1 q
        refine z_le (lv2 := [none, none, none]) (trivial) ?_
        exact w_M_variable_37 hG C hr  _ hw
      · replace hw := hw.2 q
        refine z_iload_n C (i := 2) d_M_variable_28 rfl rfl ?_
        refine z_i2l C d_M_variable_29 ?_
        refine z_ldc2 C (v := 2000000000) kl_M_77 d_M_variable_30 ?_
        refine z_lcmp C d_M_variable_33 ?_
        refine z_if_le C (tgt := 39) d_M_variable_34 (by decide) (fun q => ?_) (fun q => ?_)
        · replace hw := hw.1 q
          refine z_aload_n C (i := 0) d_M_variable_39 rfl rfl ?_
          refine z_getS C (ci := 8) (j := 2) (F := cf_M) (by decide) rfl rfl in_M (by decide) fl_M_7 rfl d_M_variable_40 ?_
          refine z_aload_n C (i := 0) d_M_variable_43 rfl rfl ?_
          refine z_getI C (ci := 8) (j := 1) (F := cf_M) (by decide) rfl rfl in_M (by decide) fl_M_72 rfl d_M_variable_44 ?_
          refine z_iload_n C (i := 1) d_M_variable_47 rfl rfl ?_
          refine z_iast C (by decide) rfl hw.1 d_M_variable_48 (fun h4 eh4 => ?_)
          replace hw := hw.2 h4 eh4
          refine z_aload_n C (i := 0) d_M_variable_49 rfl rfl ?_
          refine z_getS C (ci := 8) (j := 3) (F := cf_M) (by decide) rfl rfl in_M (by decide) fl_M_13 rfl d_M_variable_50 ?_
          refine z_aload_n C (i := 0) d_M_variable_53 rfl rfl ?_
          refine z_getI C (ci := 8) (j := 1) (F := cf_M) (by decide) rfl rfl in_M (by decide) fl_M_72 rfl d_M_variable_54 ?_
          refine z_iload_n C (i := 2) d_M_variable_57 rfl rfl ?_
          refine z_iast C (by decide) rfl hw.1 d_M_variable_58 (fun h5 eh5 => ?_)
          replace hw := hw.2 h5 eh5
          refine z_aload_n C (i := 0) d_M_variable_59 rfl rfl ?_
          refine z_getS C (ci := 8) (j := 4) (F := cf_M) (by decide) rfl rfl in_M (by decide) fl_M_16 rfl d_M_variable_60 ?_
          refine z_aload_n C (i := 0) d_M_variable_63 rfl rfl ?_
          refine z_getI C (ci := 8) (j := 1) (F := cf_M) (by decide) rfl rfl in_M (by decide) fl_M_72 rfl d_M_variable_64 ?_
          refine z_iload_n C (i := 1) d_M_variable_67 rfl rfl ?_
          refine z_if_le C (tgt := 75) d_M_variable_68 (by decide) (fun q => ?_) (fun q => ?_)
          · replace hw := hw.1 q
            refine z_iload_n C (i := 2) d_M_variable_75 rfl rfl ?_
            refine z_if_ge C (tgt := 83) d_M_variable_76 (by decide) (fun q => ?_) (fun q => ?_)
            · replace hw := hw.1 q
              refine z_iconst C (v := 0) d_M_variable_83 (by decide) ?_
              refine z_le (lv2 := [some (.ref (E.2.2.1 39)), none, none]) (⟨rfl, trivial⟩) ?_
              exact w_M_variable_84 hG C hr _ _ _ hw
            · replace hw := hw.2 q
              refine z_iload_n C (i := 2) d_M_variable_79 rfl rfl ?_
              refine z_goto C (tgt := 84) d_M_variable_80 (by decide) ?_
              refine z_le (lv2 := [some (.ref (E.2.2.1 39)), none, none]) (⟨rfl, trivial⟩) ?_
              exact w_M_variable_84 hG C hr _ _ _ hw
          · replace hw := hw.2 q
            refine z_iload_n C (i := 1) d_M_variable_71 rfl rfl ?_
            refine z_goto C (tgt := 84) d_M_variable_72 (by decide) ?_
            refine z_le (lv2 := [some (.ref (E.2.2.1 39)), none, none]) (⟨rfl, trivial⟩) ?_
            exact w_M_variable_84 hG C hr _ _ _ hw
        · replace hw := hw.2 q
          refine z_le (lv2 := [none, none, none]) (trivial) ?_
          exact w_M_variable_37 hG C hr  _ hw
theorem d_M_width_0 : decode prog_10_method_37_code 0 = .ok (.aload_n 0, 1) := by decide +kernel
theorem d_M_width_1 : decode prog_10_method_37_code 1 = .ok (.iconst 0, 1) := by decide +kernel
theorem d_M_width_2 : decode prog_10_method_37_code 2 = .ok (.putfield 68, 3) := by decide +kernel
theorem d_M_width_5 : decode prog_10_method_37_code 5 = .ok (.aload_n 0, 1) := by decide +kernel
theorem d_M_width_6 : decode prog_10_method_37_code 6 = .ok (.getfield 212, 3) := by decide +kernel
theorem d_M_width_9 : decode prog_10_method_37_code 9 = .ok (.ifCond .ne (9), 3) := by decide +kernel
theorem d_M_width_12 : decode prog_10_method_37_code 12 = .ok (.ldc2_w 223, 3) := by decide +kernel
theorem d_M_width_15 : decode prog_10_method_37_code 15 = .ok (.goto (30), 3) := by decide +kernel
theorem d_M_width_18 : decode prog_10_method_37_code 18 = .ok (.aload_n 0, 1) := by decide +kernel
theorem d_M_width_19 : decode prog_10_method_37_code 19 = .ok (.getfield 35, 3) := by decide +kernel
theorem d_M_width_22 : decode prog_10_method_37_code 22 = .ok (.bipush (99), 2) := by decide +kernel
theorem d_M_width_24 : decode prog_10_method_37_code 24 = .ok (.aload_n 0, 1) := by decide +kernel
theorem d_M_width_25 : decode prog_10_method_37_code 25 = .ok (.getfield 212, 3) := by decide +kernel
theorem d_M_width_28 : decode prog_10_method_37_code 28 = .ok (.iadd, 1) := by decide +kernel
theorem d_M_width_29 : decode prog_10_method_37_code 29 = .ok (.laload, 1) := by decide +kernel
theorem d_M_width_30 : decode prog_10_method_37_code 30 = .ok (.aload_n 0, 1) := by decide +kernel
theorem d_M_width_31 : decode prog_10_method_37_code 31 = .ok (.getfield 31, 3) := by decide +kernel
theorem d_M_width_34 : decode prog_10_method_37_code 34 = .ok (.bipush (99), 2) := by decide +kernel
theorem d_M_width_36 : decode prog_10_method_37_code 36 = .ok (.aload_n 0, 1) := by decide +kernel
theorem d_M_width_37 : decode prog_10_method_37_code 37 = .ok (.getfield 212, 3) := by decide +kernel
theorem d_M_width_40 : decode prog_10_method_37_code 40 = .ok (.iadd, 1) := by decide +kernel
theorem d_M_width_41 : decode prog_10_method_37_code 41 = .ok (.laload, 1) := by decide +kernel
theorem d_M_width_42 : decode prog_10_method_37_code 42 = .ok (.lsub, 1) := by decide +kernel
theorem d_M_width_43 : decode prog_10_method_37_code 43 = .ok (.lconst 1, 1) := by decide +kernel
theorem d_M_width_44 : decode prog_10_method_37_code 44 = .ok (.ladd, 1) := by decide +kernel
theorem d_M_width_45 : decode prog_10_method_37_code 45 = .ok (.lreturn, 1) := by decide +kernel
def b_M_width_45 (post : Int64 → zH → Prop) (s0 : Int64) (h : zH) : Prop := post s0 h
def wp_M_width (h : zH) (post : Int64 → zH → Prop) : Prop := (∀ h1 : zH, h1 = zi h 39 0 0 → ((¬ (h1.1 39 23) = 0 → (vp_in (99 + (h1.1 39 23)) 200 ∧ (vp_in (99 + (h1.1 39 23)) 200 ∧ b_M_width_45 post ((((h1.2.1 48 ((99 + (h1.1 39 23)) : Int32).toNatClampNeg) - (h1.2.1 47 ((99 + (h1.1 39 23)) : Int32).toNatClampNeg)) + 1)) h1))) ∧ ((h1.1 39 23) = 0 → b_M_width_45 post ((-1)) h1)))
set_option maxRecDepth 100000 in
set_option maxHeartbeats 4000000 in
theorem w_M_width_45 {l : Launch} {E : zE} {G : (Nat → Prop) → State → Prop} {p : Program} {e : Env} {s : State} {m : MethodId} {args : Array Value} {below : List Frame} {meth : Method} {c : Code} {A : Nat → Prop} {post : Int64 → zH → Prop} (hG : xGG E G) (C : zCx p s m args meth c E G A 0 0 prog_10_method_37_code 1 cn_M) (hr : meth.sig.returnType = (some .long))  (s0 : Int64) (h : zH) (hw : b_M_width_45 post s0 h) : zGo p l e s m args below meth c E A 0 0 1 (zPl post) h 45 [none] [.long s0] := by
  unfold b_M_width_45 at hw
  exact z_lret C hr d_M_width_45 hw
set_option maxRecDepth 100000 in
set_option maxHeartbeats 4000000 in
theorem t_M_width {l : Launch} {E : zE} {G : (Nat → Prop) → State → Prop} (hG : xGG E G) {h : zH} {post : Int64 → zH → Prop} (hw : wp_M_width  h post) : Ct l xX E xcl xN zT G 0 0 y_M_width prog_10_method_37_code 1 (some .long) [.ref (E.2.2.1 39)] h (zPl post) := by
  unfold wp_M_width at hw
  refine Ct.of (by decide) (Nat.le_of_ble_eq_true rfl) ?_
  intro p e s m below meth c A C hr
  refine z_lv (lv2 := [some (.ref (E.2.2.1 39))]) rfl ?_
  refine z_aload_n C (i := 0) d_M_width_0 rfl rfl ?_
  refine z_iconst C (v := 0) d_M_width_1 (by decide) ?_
  refine z_putI C (ci := 8) (j := 0) (F := cf_M) ct_M (by decide) rfl rfl in_M ty_M nm_M (by decide) fl_M_68 rfl (by decide +kernel) rfl d_M_width_2 (fun h1 eh1 => ?_)
  replace hw := hw h1 eh1
  refine z_aload_n C (i := 0) d_M_width_5 rfl rfl ?_
  refine z_getI C (ci := 8) (j := 23) (F := cf_M) (by decide) rfl rfl in_M (by decide) fl_M_212 rfl d_M_width_6 ?_
  refine z_if_ne C (tgt := 18) d_M_width_9 (by decide) (fun q => ?_) (fun q => ?_)
  · replace hw := hw.1 q
    refine z_aload_n C (i := 0) d_M_width_18 rfl rfl ?_
    refine z_getS C (ci := 8) (j := 16) (F := cf_M) (by decide) rfl rfl in_M (by decide) fl_M_35 rfl d_M_width_19 ?_
    refine z_bipush C (v := 99) d_M_width_22 (by decide) ?_
    refine z_aload_n C (i := 0) d_M_width_24 rfl rfl ?_
    refine z_getI C (ci := 8) (j := 23) (F := cf_M) (by decide) rfl rfl in_M (by decide) fl_M_212 rfl d_M_width_25 ?_
    refine z_iadd C d_M_width_28 ?_
    refine z_lald C (by decide) rfl hw.1 d_M_width_29 ?_
    replace hw := hw.2
    refine z_aload_n C (i := 0) d_M_width_30 rfl rfl ?_
    refine z_getS C (ci := 8) (j := 15) (F := cf_M) (by decide) rfl rfl in_M (by decide) fl_M_31 rfl d_M_width_31 ?_
    refine z_bipush C (v := 99) d_M_width_34 (by decide) ?_
    refine z_aload_n C (i := 0) d_M_width_36 rfl rfl ?_
    refine z_getI C (ci := 8) (j := 23) (F := cf_M) (by decide) rfl rfl in_M (by decide) fl_M_212 rfl d_M_width_37 ?_
    refine z_iadd C d_M_width_40 ?_
    refine z_lald C (by decide) rfl hw.1 d_M_width_41 ?_
    replace hw := hw.2
    refine z_lsub C d_M_width_42 ?_
    refine z_lconst C (v := 1) d_M_width_43 (by decide) ?_
    refine z_ladd C d_M_width_44 ?_
    refine z_le (lv2 := [none]) (trivial) ?_
    exact w_M_width_45 hG C hr _ _ hw
  · replace hw := hw.2 q
    refine z_ldc2 C (v := (-1)) kl_M_223 d_M_width_12 ?_
    refine z_goto C (tgt := 45) d_M_width_15 (by decide) ?_
    refine z_le (lv2 := [none]) (trivial) ?_
    exact w_M_width_45 hG C hr _ _ hw
theorem d_N_cover_0 : decode prog_4_method_6_code 0 = .ok (.aload_n 0, 1) := by decide +kernel
theorem d_N_cover_1 : decode prog_4_method_6_code 1 = .ok (.lload_n 1, 1) := by decide +kernel
theorem d_N_cover_2 : decode prog_4_method_6_code 2 = .ok (.lload_n 3, 1) := by decide +kernel
theorem d_N_cover_3 : decode prog_4_method_6_code 3 = .ok (.invokestatic 34, 3) := by decide +kernel
theorem d_N_cover_6 : decode prog_4_method_6_code 6 = .ok (.lload 5, 2) := by decide +kernel
theorem d_N_cover_8 : decode prog_4_method_6_code 8 = .ok (.lload 7, 2) := by decide +kernel
theorem d_N_cover_10 : decode prog_4_method_6_code 10 = .ok (.invokestatic 34, 3) := by decide +kernel
theorem d_N_cover_13 : decode prog_4_method_6_code 13 = .ok (.invokestatic 34, 3) := by decide +kernel
theorem d_N_cover_16 : decode prog_4_method_6_code 16 = .ok (.putfield 9, 3) := by decide +kernel
theorem d_N_cover_19 : decode prog_4_method_6_code 19 = .ok (.aload_n 0, 1) := by decide +kernel
theorem d_N_cover_20 : decode prog_4_method_6_code 20 = .ok (.lload_n 1, 1) := by decide +kernel
theorem d_N_cover_21 : decode prog_4_method_6_code 21 = .ok (.lload_n 3, 1) := by decide +kernel
theorem d_N_cover_22 : decode prog_4_method_6_code 22 = .ok (.invokestatic 40, 3) := by decide +kernel
theorem d_N_cover_25 : decode prog_4_method_6_code 25 = .ok (.lload 5, 2) := by decide +kernel
theorem d_N_cover_27 : decode prog_4_method_6_code 27 = .ok (.lload 7, 2) := by decide +kernel
theorem d_N_cover_29 : decode prog_4_method_6_code 29 = .ok (.invokestatic 40, 3) := by decide +kernel
theorem d_N_cover_32 : decode prog_4_method_6_code 32 = .ok (.invokestatic 40, 3) := by decide +kernel
theorem d_N_cover_35 : decode prog_4_method_6_code 35 = .ok (.putfield 15, 3) := by decide +kernel
theorem d_N_cover_38 : decode prog_4_method_6_code 38 = .ok (.return_, 1) := by decide +kernel
def wp_N_cover (k : Nat) (l1 : Int64) (l3 : Int64) (l5 : Int64) (l7 : Int64) (h : zH) (post : zH → Prop) : Prop := xRg k ∧ (∀ h1 : zH, h1 = zl h k 0 (if (if l7 < l5 then l7 else l5) < (if l3 < l1 then l3 else l1) then (if l7 < l5 then l7 else l5) else (if l3 < l1 then l3 else l1)) → (∀ h2 : zH, h2 = zl h1 k 1 (if (if l7 < l5 then l5 else l7) < (if l3 < l1 then l1 else l3) then (if l3 < l1 then l1 else l3) else (if l7 < l5 then l5 else l7)) → post h2))
set_option maxRecDepth 100000 in
set_option maxHeartbeats 4000000 in
theorem t_N_cover {l : Launch} {E : zE} {G : (Nat → Prop) → State → Prop} (hG : xGG E G) {k : Nat} {l1 : Int64} {l3 : Int64} {l5 : Int64} {l7 : Int64} {h : zH} {post : zH → Prop} (hw : wp_N_cover k l1 l3 l5 l7 h post) : Ct l xX E xcl xN zT G 1 23 y_N_cover prog_4_method_6_code 9 none [.ref (E.2.2.1 k), .long l1, .long l3, .long l5, .long l7] h (zPv post) := by
  unfold wp_N_cover at hw
  obtain ⟨hk_k, hw⟩ := hw
  refine Ct.of (by decide) (Nat.le_of_ble_eq_true rfl) ?_
  intro p e s m below meth c A C hr
  refine z_lv (lv2 := [some (.ref (E.2.2.1 k)), some (.long l1), none, some (.long l3), none, some (.long l5), none, some (.long l7), none]) rfl ?_
  refine z_aload_n C (i := 0) d_N_cover_0 rfl rfl ?_
  refine z_lload_n C (i := 1) d_N_cover_1 rfl rfl ?_
  refine z_lload_n C (i := 3) d_N_cover_2 rfl rfl ?_
  refine z_mminL C ml_N_34 mk_Lib_MathLoose_min_long_s mk_ini mk_Lib_MathLoose_min_long_c (by decide) (Nat.le_of_ble_eq_true rfl) d_N_cover_3 ?_
  refine z_lload C d_N_cover_6 rfl ?_
  refine z_lload C d_N_cover_8 rfl ?_
  refine z_mminL C ml_N_34 mk_Lib_MathLoose_min_long_s mk_ini mk_Lib_MathLoose_min_long_c (by decide) (Nat.le_of_ble_eq_true rfl) d_N_cover_10 ?_
  refine z_mminL C ml_N_34 mk_Lib_MathLoose_min_long_s mk_ini mk_Lib_MathLoose_min_long_c (by decide) (Nat.le_of_ble_eq_true rfl) d_N_cover_13 ?_
  refine z_putL C (ci := 7) (j := 0) (F := cf_N) ct_N (xRg_l0 hk_k) (xRg_0 hk_k) rfl in_N ty_N nm_N (by decide) fl_N_9 rfl (by decide +kernel) rfl d_N_cover_16 (fun h1 eh1 => ?_)
  replace hw := hw h1 eh1
  refine z_aload_n C (i := 0) d_N_cover_19 rfl rfl ?_
  refine z_lload_n C (i := 1) d_N_cover_20 rfl rfl ?_
  refine z_lload_n C (i := 3) d_N_cover_21 rfl rfl ?_
  refine z_mmaxL C ml_N_40 mk_Lib_MathLoose_max_long_s mk_ini mk_Lib_MathLoose_max_long_c (by decide) (Nat.le_of_ble_eq_true rfl) d_N_cover_22 ?_
  refine z_lload C d_N_cover_25 rfl ?_
  refine z_lload C d_N_cover_27 rfl ?_
  refine z_mmaxL C ml_N_40 mk_Lib_MathLoose_max_long_s mk_ini mk_Lib_MathLoose_max_long_c (by decide) (Nat.le_of_ble_eq_true rfl) d_N_cover_29 ?_
  refine z_mmaxL C ml_N_40 mk_Lib_MathLoose_max_long_s mk_ini mk_Lib_MathLoose_max_long_c (by decide) (Nat.le_of_ble_eq_true rfl) d_N_cover_32 ?_
  refine z_putL C (ci := 7) (j := 1) (F := cf_N) ct_N (xRg_l0 hk_k) (xRg_0 hk_k) rfl in_N ty_N nm_N (by decide) fl_N_15 rfl (by decide +kernel) rfl d_N_cover_35 (fun h2 eh2 => ?_)
  replace hw := hw h2 eh2
  exact z_vret C hr d_N_cover_38 hw
theorem d_N_hasZero_0 : decode prog_4_method_4_code 0 = .ok (.aload_n 0, 1) := by decide +kernel
theorem d_N_hasZero_1 : decode prog_4_method_4_code 1 = .ok (.getfield 9, 3) := by decide +kernel
theorem d_N_hasZero_4 : decode prog_4_method_4_code 4 = .ok (.lconst 0, 1) := by decide +kernel
theorem d_N_hasZero_5 : decode prog_4_method_4_code 5 = .ok (.lcmp, 1) := by decide +kernel
theorem d_N_hasZero_6 : decode prog_4_method_4_code 6 = .ok (.ifCond .gt (16), 3) := by decide +kernel
theorem d_N_hasZero_9 : decode prog_4_method_4_code 9 = .ok (.aload_n 0, 1) := by decide +kernel
theorem d_N_hasZero_10 : decode prog_4_method_4_code 10 = .ok (.getfield 15, 3) := by decide +kernel
theorem d_N_hasZero_13 : decode prog_4_method_4_code 13 = .ok (.lconst 0, 1) := by decide +kernel
theorem d_N_hasZero_14 : decode prog_4_method_4_code 14 = .ok (.lcmp, 1) := by decide +kernel
theorem d_N_hasZero_15 : decode prog_4_method_4_code 15 = .ok (.ifCond .lt (7), 3) := by decide +kernel
theorem d_N_hasZero_18 : decode prog_4_method_4_code 18 = .ok (.iconst 1, 1) := by decide +kernel
theorem d_N_hasZero_19 : decode prog_4_method_4_code 19 = .ok (.goto (4), 3) := by decide +kernel
theorem d_N_hasZero_22 : decode prog_4_method_4_code 22 = .ok (.iconst 0, 1) := by decide +kernel
theorem d_N_hasZero_23 : decode prog_4_method_4_code 23 = .ok (.ireturn, 1) := by decide +kernel
def b_N_hasZero_23 (k : Nat) (post : Int32 → zH → Prop) (s0 : Int32) (h : zH) : Prop := (narrow .boolean (.int s0) = .int s0 ∧ post s0 h)
def b_N_hasZero_22 (k : Nat) (post : Int32 → zH → Prop) (h : zH) : Prop := b_N_hasZero_23 k post (0) h
def wp_N_hasZero (k : Nat) (h : zH) (post : Int32 → zH → Prop) : Prop := xRg k ∧ ((0 < (lg_cmp (h.2.1 k 0) 0) → b_N_hasZero_22 k post  h) ∧ (¬ 0 < (lg_cmp (h.2.1 k 0) 0) → (((lg_cmp (h.2.1 k 1) 0) < 0 → b_N_hasZero_22 k post  h) ∧ (¬ (lg_cmp (h.2.1 k 1) 0) < 0 → b_N_hasZero_23 k post (1) h))))
set_option maxRecDepth 100000 in
set_option maxHeartbeats 4000000 in
theorem w_N_hasZero_23 {k : Nat} {l : Launch} {E : zE} {G : (Nat → Prop) → State → Prop} {p : Program} {e : Env} {s : State} {m : MethodId} {args : Array Value} {below : List Frame} {meth : Method} {c : Code} {A : Nat → Prop} {post : Int32 → zH → Prop} (hG : xGG E G) (C : zCx p s m args meth c E G A 0 0 prog_4_method_4_code 1 cn_N) (hr : meth.sig.returnType = (some .boolean)) (hk_k : xRg k)  (s0 : Int32) (h : zH) (hw : b_N_hasZero_23 k post s0 h) : zGo p l e s m args below meth c E A 0 0 1 (zPi post) h 23 [none] [.int s0] := by
  unfold b_N_hasZero_23 at hw
  exact z_zret C hr hw.1 d_N_hasZero_23 hw.2
set_option maxRecDepth 100000 in
set_option maxHeartbeats 4000000 in
theorem w_N_hasZero_22 {k : Nat} {l : Launch} {E : zE} {G : (Nat → Prop) → State → Prop} {p : Program} {e : Env} {s : State} {m : MethodId} {args : Array Value} {below : List Frame} {meth : Method} {c : Code} {A : Nat → Prop} {post : Int32 → zH → Prop} (hG : xGG E G) (C : zCx p s m args meth c E G A 0 0 prog_4_method_4_code 1 cn_N) (hr : meth.sig.returnType = (some .boolean)) (hk_k : xRg k)  (h : zH) (hw : b_N_hasZero_22 k post  h) : zGo p l e s m args below meth c E A 0 0 1 (zPi post) h 22 [none] [] := by
  unfold b_N_hasZero_22 at hw
  refine z_iconst C (v := 0) d_N_hasZero_22 (by decide) ?_
  refine z_le (lv2 := [none]) (trivial) ?_
  exact w_N_hasZero_23 hG C hr hk_k _ _ hw
set_option maxRecDepth 100000 in
set_option maxHeartbeats 4000000 in
theorem t_N_hasZero {l : Launch} {E : zE} {G : (Nat → Prop) → State → Prop} (hG : xGG E G) {k : Nat} {h : zH} {post : Int32 → zH → Prop} (hw : wp_N_hasZero k h post) : Ct l xX E xcl xN zT G 0 0 y_N_hasZero prog_4_method_4_code 1 (some .boolean) [.ref (E.2.2.1 k)] h (zPi post) := by
  unfold wp_N_hasZero at hw
  obtain ⟨hk_k, hw⟩ := hw
  refine Ct.of (by decide) (Nat.le_of_ble_eq_true rfl) ?_
  intro p e s m below meth c A C hr
  refine z_lv (lv2 := [some (.ref (E.2.2.1 k))]) rfl ?_
  refine z_aload_n C (i := 0) d_N_hasZero_0 rfl rfl ?_
  refine z_getL C (ci := 7) (j := 0) (F := cf_N) (xRg_l0 hk_k) (xRg_0 hk_k) rfl in_N (by decide) fl_N_9 rfl d_N_hasZero_1 ?_
  refine z_lconst C (v := 0) d_N_hasZero_4 (by decide) ?_
  refine z_lcmp C d_N_hasZero_5 ?_
  refine z_if_gt C (tgt := 22) d_N_hasZero_6 (by decide) (fun q => ?_) (fun q => ?_)
  · replace hw := hw.1 q
    refine z_le (lv2 := [none]) (trivial) ?_
    exact w_N_hasZero_22 hG C hr hk_k  _ hw
  · replace hw := hw.2 q
    refine z_aload_n C (i := 0) d_N_hasZero_9 rfl rfl ?_
    refine z_getL C (ci := 7) (j := 1) (F := cf_N) (xRg_l0 hk_k) (xRg_0 hk_k) rfl in_N (by decide) fl_N_15 rfl d_N_hasZero_10 ?_
    refine z_lconst C (v := 0) d_N_hasZero_13 (by decide) ?_
    refine z_lcmp C d_N_hasZero_14 ?_
    refine z_if_lt C (tgt := 22) d_N_hasZero_15 (by decide) (fun q => ?_) (fun q => ?_)
    · replace hw := hw.1 q
      refine z_le (lv2 := [none]) (trivial) ?_
      exact w_N_hasZero_22 hG C hr hk_k  _ hw
    · replace hw := hw.2 q
      refine z_iconst C (v := 1) d_N_hasZero_18 (by decide) ?_
      refine z_goto C (tgt := 23) d_N_hasZero_19 (by decide) ?_
      refine z_le (lv2 := [none]) (trivial) ?_
      exact w_N_hasZero_23 hG C hr hk_k _ _ hw
theorem d_N_isBeyond_0 : decode prog_4_method_3_code 0 = .ok (.aload_n 0, 1) := by decide +kernel
theorem d_N_isBeyond_1 : decode prog_4_method_3_code 1 = .ok (.getfield 9, 3) := by decide +kernel
theorem d_N_isBeyond_4 : decode prog_4_method_3_code 4 = .ok (.ldc2_w 18, 3) := by decide +kernel
theorem d_N_isBeyond_7 : decode prog_4_method_3_code 7 = .ok (.lcmp, 1) := by decide +kernel
theorem d_N_isBeyond_8 : decode prog_4_method_3_code 8 = .ok (.ifCond .lt (14), 3) := by decide +kernel
theorem d_N_isBeyond_11 : decode prog_4_method_3_code 11 = .ok (.aload_n 0, 1) := by decide +kernel
theorem d_N_isBeyond_12 : decode prog_4_method_3_code 12 = .ok (.getfield 15, 3) := by decide +kernel
theorem d_N_isBeyond_15 : decode prog_4_method_3_code 15 = .ok (.ldc2_w 20, 3) := by decide +kernel
theorem d_N_isBeyond_18 : decode prog_4_method_3_code 18 = .ok (.lcmp, 1) := by decide +kernel
theorem d_N_isBeyond_19 : decode prog_4_method_3_code 19 = .ok (.ifCond .le (7), 3) := by decide +kernel
theorem d_N_isBeyond_22 : decode prog_4_method_3_code 22 = .ok (.iconst 1, 1) := by decide +kernel
theorem d_N_isBeyond_23 : decode prog_4_method_3_code 23 = .ok (.goto (4), 3) := by decide +kernel
theorem d_N_isBeyond_26 : decode prog_4_method_3_code 26 = .ok (.iconst 0, 1) := by decide +kernel
theorem d_N_isBeyond_27 : decode prog_4_method_3_code 27 = .ok (.ireturn, 1) := by decide +kernel
def b_N_isBeyond_27 (k : Nat) (post : Int32 → zH → Prop) (s0 : Int32) (h : zH) : Prop := (narrow .boolean (.int s0) = .int s0 ∧ post s0 h)
def b_N_isBeyond_22 (k : Nat) (post : Int32 → zH → Prop) (h : zH) : Prop := b_N_isBeyond_27 k post (1) h
def wp_N_isBeyond (k : Nat) (h : zH) (post : Int32 → zH → Prop) : Prop := xRg k ∧ (((lg_cmp (h.2.1 k 0) (-2000000000)) < 0 → b_N_isBeyond_22 k post  h) ∧ (¬ (lg_cmp (h.2.1 k 0) (-2000000000)) < 0 → (((lg_cmp (h.2.1 k 1) 2000000000) ≤ 0 → b_N_isBeyond_27 k post (0) h) ∧ (¬ (lg_cmp (h.2.1 k 1) 2000000000) ≤ 0 → b_N_isBeyond_22 k post  h))))
set_option maxRecDepth 100000 in
set_option maxHeartbeats 4000000 in
theorem w_N_isBeyond_27 {k : Nat} {l : Launch} {E : zE} {G : (Nat → Prop) → State → Prop} {p : Program} {e : Env} {s : State} {m : MethodId} {args : Array Value} {below : List Frame} {meth : Method} {c : Code} {A : Nat → Prop} {post : Int32 → zH → Prop} (hG : xGG E G) (C : zCx p s m args meth c E G A 0 0 prog_4_method_3_code 1 cn_N) (hr : meth.sig.returnType = (some .boolean)) (hk_k : xRg k)  (s0 : Int32) (h : zH) (hw : b_N_isBeyond_27 k post s0 h) : zGo p l e s m args below meth c E A 0 0 1 (zPi post) h 27 [none] [.int s0] := by
  unfold b_N_isBeyond_27 at hw
  exact z_zret C hr hw.1 d_N_isBeyond_27 hw.2
set_option maxRecDepth 100000 in
set_option maxHeartbeats 4000000 in
theorem w_N_isBeyond_22 {k : Nat} {l : Launch} {E : zE} {G : (Nat → Prop) → State → Prop} {p : Program} {e : Env} {s : State} {m : MethodId} {args : Array Value} {below : List Frame} {meth : Method} {c : Code} {A : Nat → Prop} {post : Int32 → zH → Prop} (hG : xGG E G) (C : zCx p s m args meth c E G A 0 0 prog_4_method_3_code 1 cn_N) (hr : meth.sig.returnType = (some .boolean)) (hk_k : xRg k)  (h : zH) (hw : b_N_isBeyond_22 k post  h) : zGo p l e s m args below meth c E A 0 0 1 (zPi post) h 22 [none] [] := by
  unfold b_N_isBeyond_22 at hw
  refine z_iconst C (v := 1) d_N_isBeyond_22 (by decide) ?_
  refine z_goto C (tgt := 27) d_N_isBeyond_23 (by decide) ?_
  refine z_le (lv2 := [none]) (trivial) ?_
  exact w_N_isBeyond_27 hG C hr hk_k _ _ hw
set_option maxRecDepth 100000 in
set_option maxHeartbeats 4000000 in
theorem t_N_isBeyond {l : Launch} {E : zE} {G : (Nat → Prop) → State → Prop} (hG : xGG E G) {k : Nat} {h : zH} {post : Int32 → zH → Prop} (hw : wp_N_isBeyond k h post) : Ct l xX E xcl xN zT G 0 0 y_N_isBeyond prog_4_method_3_code 1 (some .boolean) [.ref (E.2.2.1 k)] h (zPi post) := by
  unfold wp_N_isBeyond at hw
  obtain ⟨hk_k, hw⟩ := hw
  refine Ct.of (by decide) (Nat.le_of_ble_eq_true rfl) ?_
  intro p e s m below meth c A C hr
  refine z_lv (lv2 := [some (.ref (E.2.2.1 k))]) rfl ?_
  refine z_aload_n C (i := 0) d_N_isBeyond_0 rfl rfl ?_
  refine z_getL C (ci := 7) (j := 0) (F := cf_N) (xRg_l0 hk_k) (xRg_0 hk_k) rfl in_N (by decide) fl_N_9 rfl d_N_isBeyond_1 ?_
  refine z_ldc2 C (v := (-2000000000)) kl_N_18 d_N_isBeyond_4 ?_
  refine z_lcmp C d_N_isBeyond_7 ?_
  refine z_if_lt C (tgt := 22) d_N_isBeyond_8 (by decide) (fun q => ?_) (fun q => ?_)
  · replace hw := hw.1 q
    refine z_le (lv2 := [none]) (trivial) ?_
    exact w_N_isBeyond_22 hG C hr hk_k  _ hw
  · replace hw := hw.2 q
    refine z_aload_n C (i := 0) d_N_isBeyond_11 rfl rfl ?_
    refine z_getL C (ci := 7) (j := 1) (F := cf_N) (xRg_l0 hk_k) (xRg_0 hk_k) rfl in_N (by decide) fl_N_15 rfl d_N_isBeyond_12 ?_
    refine z_ldc2 C (v := 2000000000) kl_N_20 d_N_isBeyond_15 ?_
    refine z_lcmp C d_N_isBeyond_18 ?_
    refine z_if_le C (tgt := 26) d_N_isBeyond_19 (by decide) (fun q => ?_) (fun q => ?_)
    · replace hw := hw.1 q
      refine z_iconst C (v := 0) d_N_isBeyond_26 (by decide) ?_
      refine z_le (lv2 := [none]) (trivial) ?_
      exact w_N_isBeyond_27 hG C hr hk_k _ _ hw
    · replace hw := hw.2 q
      refine z_le (lv2 := [none]) (trivial) ?_
      exact w_N_isBeyond_22 hG C hr hk_k  _ hw
theorem d_N_put_0 : decode prog_4_method_2_code 0 = .ok (.aload_n 0, 1) := by decide +kernel
theorem d_N_put_1 : decode prog_4_method_2_code 1 = .ok (.lload_n 1, 1) := by decide +kernel
theorem d_N_put_2 : decode prog_4_method_2_code 2 = .ok (.putfield 9, 3) := by decide +kernel
theorem d_N_put_5 : decode prog_4_method_2_code 5 = .ok (.aload_n 0, 1) := by decide +kernel
theorem d_N_put_6 : decode prog_4_method_2_code 6 = .ok (.lload_n 3, 1) := by decide +kernel
theorem d_N_put_7 : decode prog_4_method_2_code 7 = .ok (.putfield 15, 3) := by decide +kernel
theorem d_N_put_10 : decode prog_4_method_2_code 10 = .ok (.return_, 1) := by decide +kernel
def wp_N_put (k : Nat) (l1 : Int64) (l3 : Int64) (h : zH) (post : zH → Prop) : Prop := xRg k ∧ (∀ h1 : zH, h1 = zl h k 0 l1 → (∀ h2 : zH, h2 = zl h1 k 1 l3 → post h2))
set_option maxRecDepth 100000 in
set_option maxHeartbeats 4000000 in
theorem t_N_put {l : Launch} {E : zE} {G : (Nat → Prop) → State → Prop} (hG : xGG E G) {k : Nat} {l1 : Int64} {l3 : Int64} {h : zH} {post : zH → Prop} (hw : wp_N_put k l1 l3 h post) : Ct l xX E xcl xN zT G 0 0 y_N_put prog_4_method_2_code 5 none [.ref (E.2.2.1 k), .long l1, .long l3] h (zPv post) := by
  unfold wp_N_put at hw
  obtain ⟨hk_k, hw⟩ := hw
  refine Ct.of (by decide) (Nat.le_of_ble_eq_true rfl) ?_
  intro p e s m below meth c A C hr
  refine z_lv (lv2 := [some (.ref (E.2.2.1 k)), some (.long l1), none, some (.long l3), none]) rfl ?_
  refine z_aload_n C (i := 0) d_N_put_0 rfl rfl ?_
  refine z_lload_n C (i := 1) d_N_put_1 rfl rfl ?_
  refine z_putL C (ci := 7) (j := 0) (F := cf_N) ct_N (xRg_l0 hk_k) (xRg_0 hk_k) rfl in_N ty_N nm_N (by decide) fl_N_9 rfl (by decide +kernel) rfl d_N_put_2 (fun h1 eh1 => ?_)
  replace hw := hw h1 eh1
  refine z_aload_n C (i := 0) d_N_put_5 rfl rfl ?_
  refine z_lload_n C (i := 3) d_N_put_6 rfl rfl ?_
  refine z_putL C (ci := 7) (j := 1) (F := cf_N) ct_N (xRg_l0 hk_k) (xRg_0 hk_k) rfl in_N ty_N nm_N (by decide) fl_N_15 rfl (by decide +kernel) rfl d_N_put_7 (fun h2 eh2 => ?_)
  replace hw := hw h2 eh2
  exact z_vret C hr d_N_put_10 hw
theorem d_N_reckonRest_0 : decode prog_4_method_7_code 0 = .ok (.aload_n 2, 1) := by decide +kernel
theorem d_N_reckonRest_1 : decode prog_4_method_7_code 1 = .ok (.getfield 9, 3) := by decide +kernel
theorem d_N_reckonRest_4 : decode prog_4_method_7_code 4 = .ok (.invokestatic 47, 3) := by decide +kernel
theorem d_N_reckonRest_7 : decode prog_4_method_7_code 7 = .ok (.aload_n 2, 1) := by decide +kernel
theorem d_N_reckonRest_8 : decode prog_4_method_7_code 8 = .ok (.getfield 15, 3) := by decide +kernel
theorem d_N_reckonRest_11 : decode prog_4_method_7_code 11 = .ok (.invokestatic 47, 3) := by decide +kernel
theorem d_N_reckonRest_14 : decode prog_4_method_7_code 14 = .ok (.invokestatic 40, 3) := by decide +kernel
theorem d_N_reckonRest_17 : decode prog_4_method_7_code 17 = .ok (.lconst 1, 1) := by decide +kernel
theorem d_N_reckonRest_18 : decode prog_4_method_7_code 18 = .ok (.lsub, 1) := by decide +kernel
theorem d_N_reckonRest_19 : decode prog_4_method_7_code 19 = .ok (.lstore_n 3, 1) := by decide +kernel
theorem d_N_reckonRest_20 : decode prog_4_method_7_code 20 = .ok (.aload_n 0, 1) := by decide +kernel
theorem d_N_reckonRest_21 : decode prog_4_method_7_code 21 = .ok (.aload_n 1, 1) := by decide +kernel
theorem d_N_reckonRest_22 : decode prog_4_method_7_code 22 = .ok (.getfield 9, 3) := by decide +kernel
theorem d_N_reckonRest_25 : decode prog_4_method_7_code 25 = .ok (.lconst 0, 1) := by decide +kernel
theorem d_N_reckonRest_26 : decode prog_4_method_7_code 26 = .ok (.lcmp, 1) := by decide +kernel
theorem d_N_reckonRest_27 : decode prog_4_method_7_code 27 = .ok (.ifCond .ge (16), 3) := by decide +kernel
theorem d_N_reckonRest_30 : decode prog_4_method_7_code 30 = .ok (.lload_n 3, 1) := by decide +kernel
theorem d_N_reckonRest_31 : decode prog_4_method_7_code 31 = .ok (.aload_n 1, 1) := by decide +kernel
theorem d_N_reckonRest_32 : decode prog_4_method_7_code 32 = .ok (.getfield 9, 3) := by decide +kernel
theorem d_N_reckonRest_35 : decode prog_4_method_7_code 35 = .ok (.lneg, 1) := by decide +kernel
theorem d_N_reckonRest_36 : decode prog_4_method_7_code 36 = .ok (.invokestatic 34, 3) := by decide +kernel
theorem d_N_reckonRest_39 : decode prog_4_method_7_code 39 = .ok (.lneg, 1) := by decide +kernel
theorem d_N_reckonRest_40 : decode prog_4_method_7_code 40 = .ok (.goto (4), 3) := by decide +kernel
theorem d_N_reckonRest_43 : decode prog_4_method_7_code 43 = .ok (.lconst 0, 1) := by decide +kernel
theorem d_N_reckonRest_44 : decode prog_4_method_7_code 44 = .ok (.putfield 9, 3) := by decide +kernel
theorem d_N_reckonRest_47 : decode prog_4_method_7_code 47 = .ok (.aload_n 0, 1) := by decide +kernel
theorem d_N_reckonRest_48 : decode prog_4_method_7_code 48 = .ok (.aload_n 1, 1) := by decide +kernel
theorem d_N_reckonRest_49 : decode prog_4_method_7_code 49 = .ok (.getfield 15, 3) := by decide +kernel
theorem d_N_reckonRest_52 : decode prog_4_method_7_code 52 = .ok (.lconst 0, 1) := by decide +kernel
theorem d_N_reckonRest_53 : decode prog_4_method_7_code 53 = .ok (.lcmp, 1) := by decide +kernel
theorem d_N_reckonRest_54 : decode prog_4_method_7_code 54 = .ok (.ifCond .le (14), 3) := by decide +kernel
theorem d_N_reckonRest_57 : decode prog_4_method_7_code 57 = .ok (.lload_n 3, 1) := by decide +kernel
theorem d_N_reckonRest_58 : decode prog_4_method_7_code 58 = .ok (.aload_n 1, 1) := by decide +kernel
theorem d_N_reckonRest_59 : decode prog_4_method_7_code 59 = .ok (.getfield 15, 3) := by decide +kernel
theorem d_N_reckonRest_62 : decode prog_4_method_7_code 62 = .ok (.invokestatic 34, 3) := by decide +kernel
theorem d_N_reckonRest_65 : decode prog_4_method_7_code 65 = .ok (.goto (4), 3) := by decide +kernel
theorem d_N_reckonRest_68 : decode prog_4_method_7_code 68 = .ok (.lconst 0, 1) := by decide +kernel
theorem d_N_reckonRest_69 : decode prog_4_method_7_code 69 = .ok (.putfield 15, 3) := by decide +kernel
theorem d_N_reckonRest_72 : decode prog_4_method_7_code 72 = .ok (.return_, 1) := by decide +kernel
def b_N_reckonRest_69 (k : Nat) (l1 : Nat) (l2 : Nat) (post : zH → Prop) (s0 : Int64) (h : zH) : Prop := (∀ h1 : zH, h1 = zl h k 1 s0 → post h1)
def b_N_reckonRest_44 (k : Nat) (l1 : Nat) (l2 : Nat) (post : zH → Prop) (l3 : Int64) (s0 : Int64) (h : zH) : Prop := (∀ h2 : zH, h2 = zl h k 0 s0 → (((lg_cmp (h2.2.1 l1 1) 0) ≤ 0 → b_N_reckonRest_69 k l1 l2 post (0) h2) ∧ (¬ (lg_cmp (h2.2.1 l1 1) 0) ≤ 0 → b_N_reckonRest_69 k l1 l2 post ((if (h2.2.1 l1 1) < l3 then (h2.2.1 l1 1) else l3)) h2)))
def wp_N_reckonRest (k : Nat) (l1 : Nat) (l2 : Nat) (h : zH) (post : zH → Prop) : Prop := xRg k ∧ xRg l1 ∧ xRg l2 ∧ ((0 ≤ (lg_cmp (h.2.1 l1 0) 0) → b_N_reckonRest_44 k l1 l2 post (((if (if 0 < (h.2.1 l2 1) then (h.2.1 l2 1) else -(h.2.1 l2 1)) < (if 0 < (h.2.1 l2 0) then (h.2.1 l2 0) else -(h.2.1 l2 0)) then (if 0 < (h.2.1 l2 0) then (h.2.1 l2 0) else -(h.2.1 l2 0)) else (if 0 < (h.2.1 l2 1) then (h.2.1 l2 1) else -(h.2.1 l2 1))) - 1)) (0) h) ∧ (¬ 0 ≤ (lg_cmp (h.2.1 l1 0) 0) → b_N_reckonRest_44 k l1 l2 post (((if (if 0 < (h.2.1 l2 1) then (h.2.1 l2 1) else -(h.2.1 l2 1)) < (if 0 < (h.2.1 l2 0) then (h.2.1 l2 0) else -(h.2.1 l2 0)) then (if 0 < (h.2.1 l2 0) then (h.2.1 l2 0) else -(h.2.1 l2 0)) else (if 0 < (h.2.1 l2 1) then (h.2.1 l2 1) else -(h.2.1 l2 1))) - 1)) ((-(if (-(h.2.1 l1 0)) < ((if (if 0 < (h.2.1 l2 1) then (h.2.1 l2 1) else -(h.2.1 l2 1)) < (if 0 < (h.2.1 l2 0) then (h.2.1 l2 0) else -(h.2.1 l2 0)) then (if 0 < (h.2.1 l2 0) then (h.2.1 l2 0) else -(h.2.1 l2 0)) else (if 0 < (h.2.1 l2 1) then (h.2.1 l2 1) else -(h.2.1 l2 1))) - 1) then (-(h.2.1 l1 0)) else ((if (if 0 < (h.2.1 l2 1) then (h.2.1 l2 1) else -(h.2.1 l2 1)) < (if 0 < (h.2.1 l2 0) then (h.2.1 l2 0) else -(h.2.1 l2 0)) then (if 0 < (h.2.1 l2 0) then (h.2.1 l2 0) else -(h.2.1 l2 0)) else (if 0 < (h.2.1 l2 1) then (h.2.1 l2 1) else -(h.2.1 l2 1))) - 1)))) h))
set_option maxRecDepth 100000 in
set_option maxHeartbeats 4000000 in
theorem w_N_reckonRest_69 {k : Nat} {l1 : Nat} {l2 : Nat} {l : Launch} {E : zE} {G : (Nat → Prop) → State → Prop} {p : Program} {e : Env} {s : State} {m : MethodId} {args : Array Value} {below : List Frame} {meth : Method} {c : Code} {A : Nat → Prop} {post : zH → Prop} (hG : xGG E G) (C : zCx p s m args meth c E G A 1 23 prog_4_method_7_code 5 cn_N) (hr : meth.sig.returnType = none) (hk_k : xRg k) (hk_l1 : xRg l1) (hk_l2 : xRg l2)  (s0 : Int64) (h : zH) (hw : b_N_reckonRest_69 k l1 l2 post s0 h) : zGo p l e s m args below meth c E A 1 23 5 (zPv post) h 69 [none, none, none, none, none] [.long s0, .ref (E.2.2.1 k)] := by
  unfold b_N_reckonRest_69 at hw
  refine z_putL C (ci := 7) (j := 1) (F := cf_N) ct_N (xRg_l0 hk_k) (xRg_0 hk_k) rfl in_N ty_N nm_N (by decide) fl_N_15 rfl (by decide +kernel) rfl d_N_reckonRest_69 (fun h1 eh1 => ?_)
  replace hw := hw h1 eh1
  exact z_vret C hr d_N_reckonRest_72 hw
set_option maxRecDepth 100000 in
set_option maxHeartbeats 4000000 in
theorem w_N_reckonRest_44 {k : Nat} {l1 : Nat} {l2 : Nat} {l : Launch} {E : zE} {G : (Nat → Prop) → State → Prop} {p : Program} {e : Env} {s : State} {m : MethodId} {args : Array Value} {below : List Frame} {meth : Method} {c : Code} {A : Nat → Prop} {post : zH → Prop} (hG : xGG E G) (C : zCx p s m args meth c E G A 1 23 prog_4_method_7_code 5 cn_N) (hr : meth.sig.returnType = none) (hk_k : xRg k) (hk_l1 : xRg l1) (hk_l2 : xRg l2)  (l3 : Int64) (s0 : Int64) (h : zH) (hw : b_N_reckonRest_44 k l1 l2 post l3 s0 h) : zGo p l e s m args below meth c E A 1 23 5 (zPv post) h 44 [some (.ref (E.2.2.1 k)), some (.ref (E.2.2.1 l1)), none, some (.long l3), none] [.long s0, .ref (E.2.2.1 k)] := by
  unfold b_N_reckonRest_44 at hw
  refine z_putL C (ci := 7) (j := 0) (F := cf_N) ct_N (xRg_l0 hk_k) (xRg_0 hk_k) rfl in_N ty_N nm_N (by decide) fl_N_9 rfl (by decide +kernel) rfl d_N_reckonRest_44 (fun h2 eh2 => ?_)
  replace hw := hw h2 eh2
  refine z_aload_n C (i := 0) d_N_reckonRest_47 rfl rfl ?_
  refine z_aload_n C (i := 1) d_N_reckonRest_48 rfl rfl ?_
  refine z_getL C (ci := 7) (j := 1) (F := cf_N) (xRg_l0 hk_l1) (xRg_0 hk_l1) rfl in_N (by decide) fl_N_15 rfl d_N_reckonRest_49 ?_
  refine z_lconst C (v := 0) d_N_reckonRest_52 (by decide) ?_
  refine z_lcmp C d_N_reckonRest_53 ?_
  refine z_if_le C (tgt := 68) d_N_reckonRest_54 (by decide) (fun q => ?_) (fun q => ?_)
  · replace hw := hw.1 q
    refine z_lconst C (v := 0) d_N_reckonRest_68 (by decide) ?_
    refine z_le (lv2 := [none, none, none, none, none]) (trivial) ?_
    exact w_N_reckonRest_69 hG C hr hk_k hk_l1 hk_l2 _ _ hw
  · replace hw := hw.2 q
    refine z_lload_n C (i := 3) d_N_reckonRest_57 rfl rfl ?_
    refine z_aload_n C (i := 1) d_N_reckonRest_58 rfl rfl ?_
    refine z_getL C (ci := 7) (j := 1) (F := cf_N) (xRg_l0 hk_l1) (xRg_0 hk_l1) rfl in_N (by decide) fl_N_15 rfl d_N_reckonRest_59 ?_
    refine z_mminL C ml_N_34 mk_Lib_MathLoose_min_long_s mk_ini mk_Lib_MathLoose_min_long_c (by decide) (Nat.le_of_ble_eq_true rfl) d_N_reckonRest_62 ?_
    refine z_goto C (tgt := 69) d_N_reckonRest_65 (by decide) ?_
    refine z_le (lv2 := [none, none, none, none, none]) (trivial) ?_
    exact w_N_reckonRest_69 hG C hr hk_k hk_l1 hk_l2 _ _ hw
set_option maxRecDepth 100000 in
set_option maxHeartbeats 4000000 in
theorem t_N_reckonRest {l : Launch} {E : zE} {G : (Nat → Prop) → State → Prop} (hG : xGG E G) {k : Nat} {l1 : Nat} {l2 : Nat} {h : zH} {post : zH → Prop} (hw : wp_N_reckonRest k l1 l2 h post) : Ct l xX E xcl xN zT G 1 23 y_N_reckonRest prog_4_method_7_code 5 none [.ref (E.2.2.1 k), .ref (E.2.2.1 l1), .ref (E.2.2.1 l2)] h (zPv post) := by
  unfold wp_N_reckonRest at hw
  obtain ⟨hk_k, hk_l1, hk_l2, hw⟩ := hw
  refine Ct.of (by decide) (Nat.le_of_ble_eq_true rfl) ?_
  intro p e s m below meth c A C hr
  refine z_lv (lv2 := [some (.ref (E.2.2.1 k)), some (.ref (E.2.2.1 l1)), some (.ref (E.2.2.1 l2)), none, none]) rfl ?_
  refine z_aload_n C (i := 2) d_N_reckonRest_0 rfl rfl ?_
  refine z_getL C (ci := 7) (j := 0) (F := cf_N) (xRg_l0 hk_l2) (xRg_0 hk_l2) rfl in_N (by decide) fl_N_9 rfl d_N_reckonRest_1 ?_
  refine z_mabsL C ml_N_47 mk_Lib_MathLoose_abs_long_s mk_ini mk_Lib_MathLoose_abs_long_c (by decide) (Nat.le_of_ble_eq_true rfl) d_N_reckonRest_4 ?_
  refine z_aload_n C (i := 2) d_N_reckonRest_7 rfl rfl ?_
  refine z_getL C (ci := 7) (j := 1) (F := cf_N) (xRg_l0 hk_l2) (xRg_0 hk_l2) rfl in_N (by decide) fl_N_15 rfl d_N_reckonRest_8 ?_
  refine z_mabsL C ml_N_47 mk_Lib_MathLoose_abs_long_s mk_ini mk_Lib_MathLoose_abs_long_c (by decide) (Nat.le_of_ble_eq_true rfl) d_N_reckonRest_11 ?_
  refine z_mmaxL C ml_N_40 mk_Lib_MathLoose_max_long_s mk_ini mk_Lib_MathLoose_max_long_c (by decide) (Nat.le_of_ble_eq_true rfl) d_N_reckonRest_14 ?_
  refine z_lconst C (v := 1) d_N_reckonRest_17 (by decide) ?_
  refine z_lsub C d_N_reckonRest_18 ?_
  refine z_lstore_n C (i := 3) d_N_reckonRest_19 rfl (by decide) rfl ?_
  refine z_aload_n C (i := 0) d_N_reckonRest_20 rfl rfl ?_
  refine z_aload_n C (i := 1) d_N_reckonRest_21 rfl rfl ?_
  refine z_getL C (ci := 7) (j := 0) (F := cf_N) (xRg_l0 hk_l1) (xRg_0 hk_l1) rfl in_N (by decide) fl_N_9 rfl d_N_reckonRest_22 ?_
  refine z_lconst C (v := 0) d_N_reckonRest_25 (by decide) ?_
  refine z_lcmp C d_N_reckonRest_26 ?_
  refine z_if_ge C (tgt := 43) d_N_reckonRest_27 (by decide) (fun q => ?_) (fun q => ?_)
  · replace hw := hw.1 q
    refine z_lconst C (v := 0) d_N_reckonRest_43 (by decide) ?_
    refine z_le (lv2 := [some (.ref (E.2.2.1 k)), some (.ref (E.2.2.1 l1)), none, some (.long ((if (if 0 < (h.2.1 l2 1) then (h.2.1 l2 1) else -(h.2.1 l2 1)) < (if 0 < (h.2.1 l2 0) then (h.2.1 l2 0) else -(h.2.1 l2 0)) then (if 0 < (h.2.1 l2 0) then (h.2.1 l2 0) else -(h.2.1 l2 0)) else (if 0 < (h.2.1 l2 1) then (h.2.1 l2 1) else -(h.2.1 l2 1))) - 1)), none]) (⟨rfl, ⟨rfl, ⟨rfl, trivial⟩⟩⟩) ?_
    exact w_N_reckonRest_44 hG C hr hk_k hk_l1 hk_l2 _ _ _ hw
  · replace hw := hw.2 q
    refine z_lload_n C (i := 3) d_N_reckonRest_30 rfl rfl ?_
    refine z_aload_n C (i := 1) d_N_reckonRest_31 rfl rfl ?_
    refine z_getL C (ci := 7) (j := 0) (F := cf_N) (xRg_l0 hk_l1) (xRg_0 hk_l1) rfl in_N (by decide) fl_N_9 rfl d_N_reckonRest_32 ?_
    refine z_lneg C d_N_reckonRest_35 ?_
    refine z_mminL C ml_N_34 mk_Lib_MathLoose_min_long_s mk_ini mk_Lib_MathLoose_min_long_c (by decide) (Nat.le_of_ble_eq_true rfl) d_N_reckonRest_36 ?_
    refine z_lneg C d_N_reckonRest_39 ?_
    refine z_goto C (tgt := 44) d_N_reckonRest_40 (by decide) ?_
    refine z_le (lv2 := [some (.ref (E.2.2.1 k)), some (.ref (E.2.2.1 l1)), none, some (.long ((if (if 0 < (h.2.1 l2 1) then (h.2.1 l2 1) else -(h.2.1 l2 1)) < (if 0 < (h.2.1 l2 0) then (h.2.1 l2 0) else -(h.2.1 l2 0)) then (if 0 < (h.2.1 l2 0) then (h.2.1 l2 0) else -(h.2.1 l2 0)) else (if 0 < (h.2.1 l2 1) then (h.2.1 l2 1) else -(h.2.1 l2 1))) - 1)), none]) (⟨rfl, ⟨rfl, ⟨rfl, trivial⟩⟩⟩) ?_
    exact w_N_reckonRest_44 hG C hr hk_k hk_l1 hk_l2 _ _ _ hw
theorem d_N_reckonSize_0 : decode prog_4_method_8_code 0 = .ok (.aload_n 1, 1) := by decide +kernel
theorem d_N_reckonSize_1 : decode prog_4_method_8_code 1 = .ok (.getfield 9, 3) := by decide +kernel
theorem d_N_reckonSize_4 : decode prog_4_method_8_code 4 = .ok (.invokestatic 47, 3) := by decide +kernel
theorem d_N_reckonSize_7 : decode prog_4_method_8_code 7 = .ok (.lstore_n 2, 1) := by decide +kernel
theorem d_N_reckonSize_8 : decode prog_4_method_8_code 8 = .ok (.aload_n 1, 1) := by decide +kernel
theorem d_N_reckonSize_9 : decode prog_4_method_8_code 9 = .ok (.getfield 15, 3) := by decide +kernel
theorem d_N_reckonSize_12 : decode prog_4_method_8_code 12 = .ok (.invokestatic 47, 3) := by decide +kernel
theorem d_N_reckonSize_15 : decode prog_4_method_8_code 15 = .ok (.lstore 4, 2) := by decide +kernel
theorem d_N_reckonSize_17 : decode prog_4_method_8_code 17 = .ok (.aload_n 0, 1) := by decide +kernel
theorem d_N_reckonSize_18 : decode prog_4_method_8_code 18 = .ok (.aload_n 1, 1) := by decide +kernel
theorem d_N_reckonSize_19 : decode prog_4_method_8_code 19 = .ok (.invokevirtual 51, 3) := by decide +kernel
theorem d_N_reckonSize_22 : decode prog_4_method_8_code 22 = .ok (.ifCond .eq (7), 3) := by decide +kernel
theorem d_N_reckonSize_25 : decode prog_4_method_8_code 25 = .ok (.lconst 0, 1) := by decide +kernel
theorem d_N_reckonSize_26 : decode prog_4_method_8_code 26 = .ok (.goto (9), 3) := by decide +kernel
theorem d_N_reckonSize_29 : decode prog_4_method_8_code 29 = .ok (.lload_n 2, 1) := by decide +kernel
theorem d_N_reckonSize_30 : decode prog_4_method_8_code 30 = .ok (.lload 4, 2) := by decide +kernel
theorem d_N_reckonSize_32 : decode prog_4_method_8_code 32 = .ok (.invokestatic 34, 3) := by decide +kernel
theorem d_N_reckonSize_35 : decode prog_4_method_8_code 35 = .ok (.putfield 9, 3) := by decide +kernel
theorem d_N_reckonSize_38 : decode prog_4_method_8_code 38 = .ok (.aload_n 0, 1) := by decide +kernel
theorem d_N_reckonSize_39 : decode prog_4_method_8_code 39 = .ok (.lload_n 2, 1) := by decide +kernel
theorem d_N_reckonSize_40 : decode prog_4_method_8_code 40 = .ok (.lload 4, 2) := by decide +kernel
theorem d_N_reckonSize_42 : decode prog_4_method_8_code 42 = .ok (.invokestatic 40, 3) := by decide +kernel
theorem d_N_reckonSize_45 : decode prog_4_method_8_code 45 = .ok (.putfield 15, 3) := by decide +kernel
theorem d_N_reckonSize_48 : decode prog_4_method_8_code 48 = .ok (.return_, 1) := by decide +kernel
def b_N_reckonSize_35 (k : Nat) (l1 : Nat) (post : zH → Prop) (l2 : Int64) (l4 : Int64) (s0 : Int64) (h : zH) : Prop := (∀ h1 : zH, h1 = zl h k 0 s0 → (∀ h2 : zH, h2 = zl h1 k 1 (if l4 < l2 then l2 else l4) → post h2))
def wp_N_reckonSize (k : Nat) (l1 : Nat) (h : zH) (post : zH → Prop) : Prop := xRg k ∧ xRg l1 ∧ wp_N_hasZero l1 h (fun (r3 : Int32) (h4 : zH) => ((r3 = 0 → b_N_reckonSize_35 k l1 post ((if 0 < (h.2.1 l1 0) then (h.2.1 l1 0) else -(h.2.1 l1 0))) ((if 0 < (h.2.1 l1 1) then (h.2.1 l1 1) else -(h.2.1 l1 1))) ((if (if 0 < (h.2.1 l1 1) then (h.2.1 l1 1) else -(h.2.1 l1 1)) < (if 0 < (h.2.1 l1 0) then (h.2.1 l1 0) else -(h.2.1 l1 0)) then (if 0 < (h.2.1 l1 1) then (h.2.1 l1 1) else -(h.2.1 l1 1)) else (if 0 < (h.2.1 l1 0) then (h.2.1 l1 0) else -(h.2.1 l1 0)))) h4) ∧ (¬ r3 = 0 → b_N_reckonSize_35 k l1 post ((if 0 < (h.2.1 l1 0) then (h.2.1 l1 0) else -(h.2.1 l1 0))) ((if 0 < (h.2.1 l1 1) then (h.2.1 l1 1) else -(h.2.1 l1 1))) (0) h4)))
set_option maxRecDepth 100000 in
set_option maxHeartbeats 4000000 in
theorem w_N_reckonSize_35 {k : Nat} {l1 : Nat} {l : Launch} {E : zE} {G : (Nat → Prop) → State → Prop} {p : Program} {e : Env} {s : State} {m : MethodId} {args : Array Value} {below : List Frame} {meth : Method} {c : Code} {A : Nat → Prop} {post : zH → Prop} (hG : xGG E G) (C : zCx p s m args meth c E G A 1 23 prog_4_method_8_code 6 cn_N) (hr : meth.sig.returnType = none) (hk_k : xRg k) (hk_l1 : xRg l1)  (l2 : Int64) (l4 : Int64) (s0 : Int64) (h : zH) (hw : b_N_reckonSize_35 k l1 post l2 l4 s0 h) : zGo p l e s m args below meth c E A 1 23 6 (zPv post) h 35 [some (.ref (E.2.2.1 k)), none, some (.long l2), none, some (.long l4), none] [.long s0, .ref (E.2.2.1 k)] := by
  unfold b_N_reckonSize_35 at hw
  refine z_putL C (ci := 7) (j := 0) (F := cf_N) ct_N (xRg_l0 hk_k) (xRg_0 hk_k) rfl in_N ty_N nm_N (by decide) fl_N_9 rfl (by decide +kernel) rfl d_N_reckonSize_35 (fun h1 eh1 => ?_)
  replace hw := hw h1 eh1
  refine z_aload_n C (i := 0) d_N_reckonSize_38 rfl rfl ?_
  refine z_lload_n C (i := 2) d_N_reckonSize_39 rfl rfl ?_
  refine z_lload C d_N_reckonSize_40 rfl ?_
  refine z_mmaxL C ml_N_40 mk_Lib_MathLoose_max_long_s mk_ini mk_Lib_MathLoose_max_long_c (by decide) (Nat.le_of_ble_eq_true rfl) d_N_reckonSize_42 ?_
  refine z_putL C (ci := 7) (j := 1) (F := cf_N) ct_N (xRg_l0 hk_k) (xRg_0 hk_k) rfl in_N ty_N nm_N (by decide) fl_N_15 rfl (by decide +kernel) rfl d_N_reckonSize_45 (fun h2 eh2 => ?_)
  replace hw := hw h2 eh2
  exact z_vret C hr d_N_reckonSize_48 hw
set_option maxRecDepth 100000 in
set_option maxHeartbeats 4000000 in
theorem t_N_reckonSize {l : Launch} {E : zE} {G : (Nat → Prop) → State → Prop} (hG : xGG E G) {k : Nat} {l1 : Nat} {h : zH} {post : zH → Prop} (hw : wp_N_reckonSize k l1 h post) : Ct l xX E xcl xN zT G 1 23 y_N_reckonSize prog_4_method_8_code 6 none [.ref (E.2.2.1 k), .ref (E.2.2.1 l1)] h (zPv post) := by
  unfold wp_N_reckonSize at hw
  obtain ⟨hk_k, hk_l1, hw⟩ := hw
  refine Ct.of (by decide) (Nat.le_of_ble_eq_true rfl) ?_
  intro p e s m below meth c A C hr
  refine z_lv (lv2 := [some (.ref (E.2.2.1 k)), some (.ref (E.2.2.1 l1)), none, none, none, none]) rfl ?_
  refine z_aload_n C (i := 1) d_N_reckonSize_0 rfl rfl ?_
  refine z_getL C (ci := 7) (j := 0) (F := cf_N) (xRg_l0 hk_l1) (xRg_0 hk_l1) rfl in_N (by decide) fl_N_9 rfl d_N_reckonSize_1 ?_
  refine z_mabsL C ml_N_47 mk_Lib_MathLoose_abs_long_s mk_ini mk_Lib_MathLoose_abs_long_c (by decide) (Nat.le_of_ble_eq_true rfl) d_N_reckonSize_4 ?_
  refine z_lstore_n C (i := 2) d_N_reckonSize_7 rfl (by decide) rfl ?_
  refine z_aload_n C (i := 1) d_N_reckonSize_8 rfl rfl ?_
  refine z_getL C (ci := 7) (j := 1) (F := cf_N) (xRg_l0 hk_l1) (xRg_0 hk_l1) rfl in_N (by decide) fl_N_15 rfl d_N_reckonSize_9 ?_
  refine z_mabsL C ml_N_47 mk_Lib_MathLoose_abs_long_s mk_ini mk_Lib_MathLoose_abs_long_c (by decide) (Nat.le_of_ble_eq_true rfl) d_N_reckonSize_12 ?_
  refine z_lstore C d_N_reckonSize_15 (by decide) rfl ?_
  refine z_aload_n C (i := 0) d_N_reckonSize_17 rfl rfl ?_
  refine z_aload_n C (i := 1) d_N_reckonSize_18 rfl rfl ?_
  refine z_callVi ⟨xN_ok, hG.1⟩ zT_good C (t_N_hasZero hG hw) ol_N_51 (xRg_l0 hk_l1) (xRg_0 hk_l1) rfl (by decide) (by decide) pl_N_hasZero rfl rfl (Nat.le_of_ble_eq_true rfl) d_N_reckonSize_19 (fun r3 h4 hw => ?_)
  refine z_if_eq C (tgt := 29) d_N_reckonSize_22 (by decide) (fun q => ?_) (fun q => ?_)
  · replace hw := hw.1 q
    refine z_lload_n C (i := 2) d_N_reckonSize_29 rfl rfl ?_
    refine z_lload C d_N_reckonSize_30 rfl ?_
    refine z_mminL C ml_N_34 mk_Lib_MathLoose_min_long_s mk_ini mk_Lib_MathLoose_min_long_c (by decide) (Nat.le_of_ble_eq_true rfl) d_N_reckonSize_32 ?_
    refine z_le (lv2 := [some (.ref (E.2.2.1 k)), none, some (.long (if 0 < (h.2.1 l1 0) then (h.2.1 l1 0) else -(h.2.1 l1 0))), none, some (.long (if 0 < (h.2.1 l1 1) then (h.2.1 l1 1) else -(h.2.1 l1 1))), none]) (⟨rfl, ⟨rfl, ⟨rfl, trivial⟩⟩⟩) ?_
    exact w_N_reckonSize_35 hG C hr hk_k hk_l1 _ _ _ _ hw
  · replace hw := hw.2 q
    refine z_lconst C (v := 0) d_N_reckonSize_25 (by decide) ?_
    refine z_goto C (tgt := 35) d_N_reckonSize_26 (by decide) ?_
    refine z_le (lv2 := [some (.ref (E.2.2.1 k)), none, some (.long (if 0 < (h.2.1 l1 0) then (h.2.1 l1 0) else -(h.2.1 l1 0))), none, some (.long (if 0 < (h.2.1 l1 1) then (h.2.1 l1 1) else -(h.2.1 l1 1))), none]) (⟨rfl, ⟨rfl, ⟨rfl, trivial⟩⟩⟩) ?_
    exact w_N_reckonSize_35 hG C hr hk_k hk_l1 _ _ _ _ hw
