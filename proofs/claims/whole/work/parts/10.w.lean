theorem d_G_cameNextTerm_0 : decode prog_3_method_8_code 0 = .ok (.aload_n 0, 1) := by decide +kernel
theorem d_G_cameNextTerm_1 : decode prog_3_method_8_code 1 = .ok (.getfield 21, 3) := by decide +kernel
theorem d_G_cameNextTerm_4 : decode prog_3_method_8_code 4 = .ok (.ifCond .le (28), 3) := by decide +kernel
theorem d_G_cameNextTerm_7 : decode prog_3_method_8_code 7 = .ok (.aload_n 0, 1) := by decide +kernel
theorem d_G_cameNextTerm_8 : decode prog_3_method_8_code 8 = .ok (.getfield 21, 3) := by decide +kernel
theorem d_G_cameNextTerm_11 : decode prog_3_method_8_code 11 = .ok (.sipush (197), 3) := by decide +kernel
theorem d_G_cameNextTerm_14 : decode prog_3_method_8_code 14 = .ok (.if_icmp .gt (18), 3) := by decide +kernel
theorem d_G_cameNextTerm_17 : decode prog_3_method_8_code 17 = .ok (.aload_n 0, 1) := by decide +kernel
theorem d_G_cameNextTerm_18 : decode prog_3_method_8_code 18 = .ok (.getfield 18, 3) := by decide +kernel
theorem d_G_cameNextTerm_21 : decode prog_3_method_8_code 21 = .ok (.aload_n 0, 1) := by decide +kernel
theorem d_G_cameNextTerm_22 : decode prog_3_method_8_code 22 = .ok (.getfield 21, 3) := by decide +kernel
theorem d_G_cameNextTerm_25 : decode prog_3_method_8_code 25 = .ok (.iconst 1, 1) := by decide +kernel
theorem d_G_cameNextTerm_26 : decode prog_3_method_8_code 26 = .ok (.isub, 1) := by decide +kernel
theorem d_G_cameNextTerm_27 : decode prog_3_method_8_code 27 = .ok (.dup2, 1) := by decide +kernel
theorem d_G_cameNextTerm_28 : decode prog_3_method_8_code 28 = .ok (.iaload, 1) := by decide +kernel
theorem d_G_cameNextTerm_29 : decode prog_3_method_8_code 29 = .ok (.iconst 1, 1) := by decide +kernel
theorem d_G_cameNextTerm_30 : decode prog_3_method_8_code 30 = .ok (.isub, 1) := by decide +kernel
theorem d_G_cameNextTerm_31 : decode prog_3_method_8_code 31 = .ok (.iastore, 1) := by decide +kernel
theorem d_G_cameNextTerm_32 : decode prog_3_method_8_code 32 = .ok (.return_, 1) := by decide +kernel
def b_G_cameNextTerm_32 (post : zH → Prop) (h : zH) : Prop := post h
def wp_G_cameNextTerm (h : zH) (post : zH → Prop) : Prop := (((h.1 31 3) ≤ 0 → b_G_cameNextTerm_32 post  h) ∧ (¬ (h.1 31 3) ≤ 0 → ((197 < (h.1 31 3) → b_G_cameNextTerm_32 post  h) ∧ (¬ 197 < (h.1 31 3) → (vp_in ((h.1 31 3) - 1) 197 ∧ (vp_in ((h.1 31 3) - 1) 197 ∧ ∀ h1 : zH, h1 = zi h 34 (((h.1 31 3) - 1) : Int32).toNatClampNeg ((h.1 34 (((h.1 31 3) - 1) : Int32).toNatClampNeg) - 1) → b_G_cameNextTerm_32 post  h1))))))
set_option maxRecDepth 100000 in
set_option maxHeartbeats 4000000 in
theorem w_G_cameNextTerm_32 {l : Launch} {E : zE} {G : (Nat → Prop) → State → Prop} {p : Program} {e : Env} {s : State} {m : MethodId} {args : Array Value} {below : List Frame} {meth : Method} {c : Code} {A : Nat → Prop} {post : zH → Prop} (hG : xGG E G) (C : zCx p s m args meth c E G A 0 0 prog_3_method_8_code 1 cn_G) (hr : meth.sig.returnType = none)  (h : zH) (hw : b_G_cameNextTerm_32 post  h) : zGo p l e s m args below meth c E A 0 0 1 (zPv post) h 32 [none] [] := by
  unfold b_G_cameNextTerm_32 at hw
  exact z_vret C hr d_G_cameNextTerm_32 hw
set_option maxRecDepth 100000 in
set_option maxHeartbeats 4000000 in
theorem t_G_cameNextTerm {l : Launch} {E : zE} {G : (Nat → Prop) → State → Prop} (hG : xGG E G) {h : zH} {post : zH → Prop} (hw : wp_G_cameNextTerm  h post) : Ct l xX E xcl xN zT G 0 0 y_G_cameNextTerm prog_3_method_8_code 1 none [.ref (E.2.2.1 31)] h (zPv post) := by
  unfold wp_G_cameNextTerm at hw
  refine Ct.of (by decide) (Nat.le_of_ble_eq_true rfl) ?_
  intro p e s m below meth c A C hr
  refine z_lv (lv2 := [some (.ref (E.2.2.1 31))]) rfl ?_
  refine z_aload_n C (i := 0) d_G_cameNextTerm_0 rfl rfl ?_
  refine z_getI C (ci := 6) (j := 3) (F := cf_G) (by decide) rfl rfl in_G (by decide) fl_G_21 rfl d_G_cameNextTerm_1 ?_
  refine z_if_le C (tgt := 32) d_G_cameNextTerm_4 (by decide) (fun q => ?_) (fun q => ?_)
  · replace hw := hw.1 q
    refine z_le (lv2 := [none]) (trivial) ?_
    exact w_G_cameNextTerm_32 hG C hr  _ hw
  · replace hw := hw.2 q
    refine z_aload_n C (i := 0) d_G_cameNextTerm_7 rfl rfl ?_
    refine z_getI C (ci := 6) (j := 3) (F := cf_G) (by decide) rfl rfl in_G (by decide) fl_G_21 rfl d_G_cameNextTerm_8 ?_
    refine z_sipush C (v := 197) d_G_cameNextTerm_11 (by decide) ?_
    refine z_icmp_gt C (tgt := 32) d_G_cameNextTerm_14 (by decide) (fun q => ?_) (fun q => ?_)
    · replace hw := hw.1 q
      refine z_le (lv2 := [none]) (trivial) ?_
      exact w_G_cameNextTerm_32 hG C hr  _ hw
    · replace hw := hw.2 q
      refine z_aload_n C (i := 0) d_G_cameNextTerm_17 rfl rfl ?_
      refine z_getS C (ci := 6) (j := 2) (F := cf_G) (by decide) rfl rfl in_G (by decide) fl_G_18 rfl d_G_cameNextTerm_18 ?_
      refine z_aload_n C (i := 0) d_G_cameNextTerm_21 rfl rfl ?_
      refine z_getI C (ci := 6) (j := 3) (F := cf_G) (by decide) rfl rfl in_G (by decide) fl_G_21 rfl d_G_cameNextTerm_22 ?_
      refine z_iconst C (v := 1) d_G_cameNextTerm_25 (by decide) ?_
      refine z_isub C d_G_cameNextTerm_26 ?_
      refine z_dup2 C d_G_cameNextTerm_27 rfl rfl ?_
      refine z_iald C (by decide) rfl hw.1 d_G_cameNextTerm_28 ?_
      replace hw := hw.2
      refine z_iconst C (v := 1) d_G_cameNextTerm_29 (by decide) ?_
      refine z_isub C d_G_cameNextTerm_30 ?_
      refine z_iast C (by decide) rfl hw.1 d_G_cameNextTerm_31 (fun h1 eh1 => ?_)
      replace hw := hw.2 h1 eh1
      refine z_le (lv2 := [none]) (trivial) ?_
      exact w_G_cameNextTerm_32 hG C hr  _ hw
theorem d_G_clear_0 : decode prog_3_method_2_code 0 = .ok (.aload_n 0, 1) := by decide +kernel
theorem d_G_clear_1 : decode prog_3_method_2_code 1 = .ok (.iconst 0, 1) := by decide +kernel
theorem d_G_clear_2 : decode prog_3_method_2_code 2 = .ok (.putfield 21, 3) := by decide +kernel
theorem d_G_clear_5 : decode prog_3_method_2_code 5 = .ok (.aload_n 0, 1) := by decide +kernel
theorem d_G_clear_6 : decode prog_3_method_2_code 6 = .ok (.iconst 0, 1) := by decide +kernel
theorem d_G_clear_7 : decode prog_3_method_2_code 7 = .ok (.putfield 25, 3) := by decide +kernel
theorem d_G_clear_10 : decode prog_3_method_2_code 10 = .ok (.return_, 1) := by decide +kernel
def wp_G_clear (h : zH) (post : zH → Prop) : Prop := (∀ h1 : zH, h1 = zi h 31 3 0 → (∀ h2 : zH, h2 = zi h1 31 4 0 → post h2))
set_option maxRecDepth 100000 in
set_option maxHeartbeats 4000000 in
theorem t_G_clear {l : Launch} {E : zE} {G : (Nat → Prop) → State → Prop} (hG : xGG E G) {h : zH} {post : zH → Prop} (hw : wp_G_clear  h post) : Ct l xX E xcl xN zT G 0 0 y_G_clear prog_3_method_2_code 1 none [.ref (E.2.2.1 31)] h (zPv post) := by
  unfold wp_G_clear at hw
  refine Ct.of (by decide) (Nat.le_of_ble_eq_true rfl) ?_
  intro p e s m below meth c A C hr
  refine z_lv (lv2 := [some (.ref (E.2.2.1 31))]) rfl ?_
  refine z_aload_n C (i := 0) d_G_clear_0 rfl rfl ?_
  refine z_iconst C (v := 0) d_G_clear_1 (by decide) ?_
  refine z_putI C (ci := 6) (j := 3) (F := cf_G) ct_G (by decide) rfl rfl in_G ty_G nm_G (by decide) fl_G_21 rfl (by decide +kernel) rfl d_G_clear_2 (fun h1 eh1 => ?_)
  replace hw := hw h1 eh1
  refine z_aload_n C (i := 0) d_G_clear_5 rfl rfl ?_
  refine z_iconst C (v := 0) d_G_clear_6 (by decide) ?_
  refine z_putI C (ci := 6) (j := 4) (F := cf_G) ct_G (by decide) rfl rfl in_G ty_G nm_G (by decide) fl_G_25 rfl (by decide +kernel) rfl d_G_clear_7 (fun h2 eh2 => ?_)
  replace hw := hw h2 eh2
  exact z_vret C hr d_G_clear_10 hw
theorem d_G_nests_0 : decode prog_3_method_10_code 0 = .ok (.iload_n 0, 1) := by decide +kernel
theorem d_G_nests_1 : decode prog_3_method_10_code 1 = .ok (.tableswitch (109) (4) (26) #[107, 109, 109, 107, 109, 109, 109, 109, 109, 109, 109, 109, 109, 109, 109, 109, 107, 109, 109, 107, 107, 107, 107], 107) := by decide +kernel
theorem d_G_nests_108 : decode prog_3_method_10_code 108 = .ok (.iconst 1, 1) := by decide +kernel
theorem d_G_nests_109 : decode prog_3_method_10_code 109 = .ok (.ireturn, 1) := by decide +kernel
theorem d_G_nests_110 : decode prog_3_method_10_code 110 = .ok (.iconst 0, 1) := by decide +kernel
theorem d_G_nests_111 : decode prog_3_method_10_code 111 = .ok (.ireturn, 1) := by decide +kernel
def b_G_nests_108 (post : Int32 → zH → Prop) (h : zH) : Prop := post 1 h
def b_G_nests_110 (post : Int32 → zH → Prop) (h : zH) : Prop := post 0 h
def wp_G_nests (l0 : Int32) (h : zH) (post : Int32 → zH → Prop) : Prop := ((l0 = 4 → b_G_nests_108 post  h) ∧ (¬ l0 = 4 → ((l0 = 5 → b_G_nests_110 post  h) ∧ (¬ l0 = 5 → ((l0 = 6 → b_G_nests_110 post  h) ∧ (¬ l0 = 6 → ((l0 = 7 → b_G_nests_108 post  h) ∧ (¬ l0 = 7 → ((l0 = 8 → b_G_nests_110 post  h) ∧ (¬ l0 = 8 → ((l0 = 9 → b_G_nests_110 post  h) ∧ (¬ l0 = 9 → ((l0 = 10 → b_G_nests_110 post  h) ∧ (¬ l0 = 10 → ((l0 = 11 → b_G_nests_110 post  h) ∧ (¬ l0 = 11 → ((l0 = 12 → b_G_nests_110 post  h) ∧ (¬ l0 = 12 → ((l0 = 13 → b_G_nests_110 post  h) ∧ (¬ l0 = 13 → ((l0 = 14 → b_G_nests_110 post  h) ∧ (¬ l0 = 14 → ((l0 = 15 → b_G_nests_110 post  h) ∧ (¬ l0 = 15 → ((l0 = 16 → b_G_nests_110 post  h) ∧ (¬ l0 = 16 → ((l0 = 17 → b_G_nests_110 post  h) ∧ (¬ l0 = 17 → ((l0 = 18 → b_G_nests_110 post  h) ∧ (¬ l0 = 18 → ((l0 = 19 → b_G_nests_110 post  h) ∧ (¬ l0 = 19 → ((l0 = 20 → b_G_nests_108 post  h) ∧ (¬ l0 = 20 → ((l0 = 21 → b_G_nests_110 post  h) ∧ (¬ l0 = 21 → ((l0 = 22 → b_G_nests_110 post  h) ∧ (¬ l0 = 22 → ((l0 = 23 → b_G_nests_108 post  h) ∧ (¬ l0 = 23 → ((l0 = 24 → b_G_nests_108 post  h) ∧ (¬ l0 = 24 → ((l0 = 25 → b_G_nests_108 post  h) ∧ (¬ l0 = 25 → ((l0 = 26 → b_G_nests_108 post  h) ∧ (¬ l0 = 26 → b_G_nests_110 post  h))))))))))))))))))))))))))))))))))))))))))))))
set_option maxRecDepth 100000 in
set_option maxHeartbeats 4000000 in
theorem w_G_nests_108 {l : Launch} {E : zE} {G : (Nat → Prop) → State → Prop} {p : Program} {e : Env} {s : State} {m : MethodId} {args : Array Value} {below : List Frame} {meth : Method} {c : Code} {A : Nat → Prop} {post : Int32 → zH → Prop} (hG : xGG E G) (C : zCx p s m args meth c E G A 0 0 prog_3_method_10_code 1 cn_G) (hr : meth.sig.returnType = (some .boolean))  (h : zH) (hw : b_G_nests_108 post  h) : zGo p l e s m args below meth c E A 0 0 1 (zPi post) h 108 [none] [] := by
  unfold b_G_nests_108 at hw
  refine z_iconst C (v := 1) d_G_nests_108 (by decide) ?_
  exact z_zret C hr rfl d_G_nests_109 hw
set_option maxRecDepth 100000 in
set_option maxHeartbeats 4000000 in
theorem w_G_nests_110 {l : Launch} {E : zE} {G : (Nat → Prop) → State → Prop} {p : Program} {e : Env} {s : State} {m : MethodId} {args : Array Value} {below : List Frame} {meth : Method} {c : Code} {A : Nat → Prop} {post : Int32 → zH → Prop} (hG : xGG E G) (C : zCx p s m args meth c E G A 0 0 prog_3_method_10_code 1 cn_G) (hr : meth.sig.returnType = (some .boolean))  (h : zH) (hw : b_G_nests_110 post  h) : zGo p l e s m args below meth c E A 0 0 1 (zPi post) h 110 [none] [] := by
  unfold b_G_nests_110 at hw
  refine z_iconst C (v := 0) d_G_nests_110 (by decide) ?_
  exact z_zret C hr rfl d_G_nests_111 hw
set_option maxRecDepth 100000 in
set_option maxHeartbeats 4000000 in
theorem t_G_nests {l : Launch} {E : zE} {G : (Nat → Prop) → State → Prop} (hG : xGG E G) {l0 : Int32} {h : zH} {post : Int32 → zH → Prop} (hw : wp_G_nests l0 h post) : Ct l xX E xcl xN zT G 0 0 y_G_nests prog_3_method_10_code 1 (some .boolean) [.int l0] h (zPi post) := by
  unfold wp_G_nests at hw
  refine Ct.of (by decide) (Nat.le_of_ble_eq_true rfl) ?_
  intro p e s m below meth c A C hr
  refine z_lv (lv2 := [some (.int l0)]) rfl ?_
  refine z_iload_n C (i := 0) d_G_nests_0 rfl rfl ?_
  refine z_tcase C (off := 107) (tgt := 108) (4 : Int32) d_G_nests_1 (by decide) (by decide) rfl (by decide) (fun q0 => ?_) (fun q0 => ?_)
  · replace hw := hw.1 q0
    refine z_le (lv2 := [none]) (trivial) ?_
    exact w_G_nests_108 hG C hr  _ hw
  replace hw := hw.2 q0
  refine z_tcase C (off := 109) (tgt := 110) (5 : Int32) d_G_nests_1 (by decide) (by decide) rfl (by decide) (fun q1 => ?_) (fun q1 => ?_)
  · replace hw := hw.1 q1
    refine z_le (lv2 := [none]) (trivial) ?_
    exact w_G_nests_110 hG C hr  _ hw
  replace hw := hw.2 q1
  refine z_tcase C (off := 109) (tgt := 110) (6 : Int32) d_G_nests_1 (by decide) (by decide) rfl (by decide) (fun q2 => ?_) (fun q2 => ?_)
  · replace hw := hw.1 q2
    refine z_le (lv2 := [none]) (trivial) ?_
    exact w_G_nests_110 hG C hr  _ hw
  replace hw := hw.2 q2
  refine z_tcase C (off := 107) (tgt := 108) (7 : Int32) d_G_nests_1 (by decide) (by decide) rfl (by decide) (fun q3 => ?_) (fun q3 => ?_)
  · replace hw := hw.1 q3
    refine z_le (lv2 := [none]) (trivial) ?_
    exact w_G_nests_108 hG C hr  _ hw
  replace hw := hw.2 q3
  refine z_tcase C (off := 109) (tgt := 110) (8 : Int32) d_G_nests_1 (by decide) (by decide) rfl (by decide) (fun q4 => ?_) (fun q4 => ?_)
  · replace hw := hw.1 q4
    refine z_le (lv2 := [none]) (trivial) ?_
    exact w_G_nests_110 hG C hr  _ hw
  replace hw := hw.2 q4
  refine z_tcase C (off := 109) (tgt := 110) (9 : Int32) d_G_nests_1 (by decide) (by decide) rfl (by decide) (fun q5 => ?_) (fun q5 => ?_)
  · replace hw := hw.1 q5
    refine z_le (lv2 := [none]) (trivial) ?_
    exact w_G_nests_110 hG C hr  _ hw
  replace hw := hw.2 q5
  refine z_tcase C (off := 109) (tgt := 110) (10 : Int32) d_G_nests_1 (by decide) (by decide) rfl (by decide) (fun q6 => ?_) (fun q6 => ?_)
  · replace hw := hw.1 q6
    refine z_le (lv2 := [none]) (trivial) ?_
    exact w_G_nests_110 hG C hr  _ hw
  replace hw := hw.2 q6
  refine z_tcase C (off := 109) (tgt := 110) (11 : Int32) d_G_nests_1 (by decide) (by decide) rfl (by decide) (fun q7 => ?_) (fun q7 => ?_)
  · replace hw := hw.1 q7
    refine z_le (lv2 := [none]) (trivial) ?_
    exact w_G_nests_110 hG C hr  _ hw
  replace hw := hw.2 q7
  refine z_tcase C (off := 109) (tgt := 110) (12 : Int32) d_G_nests_1 (by decide) (by decide) rfl (by decide) (fun q8 => ?_) (fun q8 => ?_)
  · replace hw := hw.1 q8
    refine z_le (lv2 := [none]) (trivial) ?_
    exact w_G_nests_110 hG C hr  _ hw
  replace hw := hw.2 q8
  refine z_tcase C (off := 109) (tgt := 110) (13 : Int32) d_G_nests_1 (by decide) (by decide) rfl (by decide) (fun q9 => ?_) (fun q9 => ?_)
  · replace hw := hw.1 q9
    refine z_le (lv2 := [none]) (trivial) ?_
    exact w_G_nests_110 hG C hr  _ hw
  replace hw := hw.2 q9
  refine z_tcase C (off := 109) (tgt := 110) (14 : Int32) d_G_nests_1 (by decide) (by decide) rfl (by decide) (fun q10 => ?_) (fun q10 => ?_)
  · replace hw := hw.1 q10
    refine z_le (lv2 := [none]) (trivial) ?_
    exact w_G_nests_110 hG C hr  _ hw
  replace hw := hw.2 q10
  refine z_tcase C (off := 109) (tgt := 110) (15 : Int32) d_G_nests_1 (by decide) (by decide) rfl (by decide) (fun q11 => ?_) (fun q11 => ?_)
  · replace hw := hw.1 q11
    refine z_le (lv2 := [none]) (trivial) ?_
    exact w_G_nests_110 hG C hr  _ hw
  replace hw := hw.2 q11
  refine z_tcase C (off := 109) (tgt := 110) (16 : Int32) d_G_nests_1 (by decide) (by decide) rfl (by decide) (fun q12 => ?_) (fun q12 => ?_)
  · replace hw := hw.1 q12
    refine z_le (lv2 := [none]) (trivial) ?_
    exact w_G_nests_110 hG C hr  _ hw
  replace hw := hw.2 q12
  refine z_tcase C (off := 109) (tgt := 110) (17 : Int32) d_G_nests_1 (by decide) (by decide) rfl (by decide) (fun q13 => ?_) (fun q13 => ?_)
  · replace hw := hw.1 q13
    refine z_le (lv2 := [none]) (trivial) ?_
    exact w_G_nests_110 hG C hr  _ hw
  replace hw := hw.2 q13
  refine z_tcase C (off := 109) (tgt := 110) (18 : Int32) d_G_nests_1 (by decide) (by decide) rfl (by decide) (fun q14 => ?_) (fun q14 => ?_)
  · replace hw := hw.1 q14
    refine z_le (lv2 := [none]) (trivial) ?_
    exact w_G_nests_110 hG C hr  _ hw
  replace hw := hw.2 q14
  refine z_tcase C (off := 109) (tgt := 110) (19 : Int32) d_G_nests_1 (by decide) (by decide) rfl (by decide) (fun q15 => ?_) (fun q15 => ?_)
  · replace hw := hw.1 q15
    refine z_le (lv2 := [none]) (trivial) ?_
    exact w_G_nests_110 hG C hr  _ hw
  replace hw := hw.2 q15
  refine z_tcase C (off := 107) (tgt := 108) (20 : Int32) d_G_nests_1 (by decide) (by decide) rfl (by decide) (fun q16 => ?_) (fun q16 => ?_)
  · replace hw := hw.1 q16
    refine z_le (lv2 := [none]) (trivial) ?_
    exact w_G_nests_108 hG C hr  _ hw
  replace hw := hw.2 q16
  refine z_tcase C (off := 109) (tgt := 110) (21 : Int32) d_G_nests_1 (by decide) (by decide) rfl (by decide) (fun q17 => ?_) (fun q17 => ?_)
  · replace hw := hw.1 q17
    refine z_le (lv2 := [none]) (trivial) ?_
    exact w_G_nests_110 hG C hr  _ hw
  replace hw := hw.2 q17
  refine z_tcase C (off := 109) (tgt := 110) (22 : Int32) d_G_nests_1 (by decide) (by decide) rfl (by decide) (fun q18 => ?_) (fun q18 => ?_)
  · replace hw := hw.1 q18
    refine z_le (lv2 := [none]) (trivial) ?_
    exact w_G_nests_110 hG C hr  _ hw
  replace hw := hw.2 q18
  refine z_tcase C (off := 107) (tgt := 108) (23 : Int32) d_G_nests_1 (by decide) (by decide) rfl (by decide) (fun q19 => ?_) (fun q19 => ?_)
  · replace hw := hw.1 q19
    refine z_le (lv2 := [none]) (trivial) ?_
    exact w_G_nests_108 hG C hr  _ hw
  replace hw := hw.2 q19
  refine z_tcase C (off := 107) (tgt := 108) (24 : Int32) d_G_nests_1 (by decide) (by decide) rfl (by decide) (fun q20 => ?_) (fun q20 => ?_)
  · replace hw := hw.1 q20
    refine z_le (lv2 := [none]) (trivial) ?_
    exact w_G_nests_108 hG C hr  _ hw
  replace hw := hw.2 q20
  refine z_tcase C (off := 107) (tgt := 108) (25 : Int32) d_G_nests_1 (by decide) (by decide) rfl (by decide) (fun q21 => ?_) (fun q21 => ?_)
  · replace hw := hw.1 q21
    refine z_le (lv2 := [none]) (trivial) ?_
    exact w_G_nests_108 hG C hr  _ hw
  replace hw := hw.2 q21
  refine z_tcase C (off := 107) (tgt := 108) (26 : Int32) d_G_nests_1 (by decide) (by decide) rfl (by decide) (fun q22 => ?_) (fun q22 => ?_)
  · replace hw := hw.1 q22
    refine z_le (lv2 := [none]) (trivial) ?_
    exact w_G_nests_108 hG C hr  _ hw
  replace hw := hw.2 q22
  refine z_tabOut C (tgt := 110) d_G_nests_1 (by have e0 := lv_neT q0 (a := 4) rfl; have e1 := lv_neT q1 (a := 5) rfl; have e2 := lv_neT q2 (a := 6) rfl; have e3 := lv_neT q3 (a := 7) rfl; have e4 := lv_neT q4 (a := 8) rfl; have e5 := lv_neT q5 (a := 9) rfl; have e6 := lv_neT q6 (a := 10) rfl; have e7 := lv_neT q7 (a := 11) rfl; have e8 := lv_neT q8 (a := 12) rfl; have e9 := lv_neT q9 (a := 13) rfl; have e10 := lv_neT q10 (a := 14) rfl; have e11 := lv_neT q11 (a := 15) rfl; have e12 := lv_neT q12 (a := 16) rfl; have e13 := lv_neT q13 (a := 17) rfl; have e14 := lv_neT q14 (a := 18) rfl; have e15 := lv_neT q15 (a := 19) rfl; have e16 := lv_neT q16 (a := 20) rfl; have e17 := lv_neT q17 (a := 21) rfl; have e18 := lv_neT q18 (a := 22) rfl; have e19 := lv_neT q19 (a := 23) rfl; have e20 := lv_neT q20 (a := 24) rfl; have e21 := lv_neT q21 (a := 25) rfl; have e22 := lv_neT q22 (a := 26) rfl; omega) (by decide) ?_
  refine z_le (lv2 := [none]) (trivial) ?_
  exact w_G_nests_110 hG C hr  _ hw
theorem d_G_topCode_0 : decode prog_3_method_5_code 0 = .ok (.aload_n 0, 1) := by decide +kernel
theorem d_G_topCode_1 : decode prog_3_method_5_code 1 = .ok (.getfield 21, 3) := by decide +kernel
theorem d_G_topCode_4 : decode prog_3_method_5_code 4 = .ok (.ifCond .le (19), 3) := by decide +kernel
theorem d_G_topCode_7 : decode prog_3_method_5_code 7 = .ok (.aload_n 0, 1) := by decide +kernel
theorem d_G_topCode_8 : decode prog_3_method_5_code 8 = .ok (.getfield 9, 3) := by decide +kernel
theorem d_G_topCode_11 : decode prog_3_method_5_code 11 = .ok (.aload_n 0, 1) := by decide +kernel
theorem d_G_topCode_12 : decode prog_3_method_5_code 12 = .ok (.getfield 21, 3) := by decide +kernel
theorem d_G_topCode_15 : decode prog_3_method_5_code 15 = .ok (.iconst 1, 1) := by decide +kernel
theorem d_G_topCode_16 : decode prog_3_method_5_code 16 = .ok (.isub, 1) := by decide +kernel
theorem d_G_topCode_17 : decode prog_3_method_5_code 17 = .ok (.invokestatic 36, 3) := by decide +kernel
theorem d_G_topCode_20 : decode prog_3_method_5_code 20 = .ok (.goto (4), 3) := by decide +kernel
theorem d_G_topCode_23 : decode prog_3_method_5_code 23 = .ok (.iconst 0, 1) := by decide +kernel
theorem d_G_topCode_24 : decode prog_3_method_5_code 24 = .ok (.ireturn, 1) := by decide +kernel
def b_G_topCode_24 (post : Int32 → zH → Prop) (s0 : Int32) (h : zH) : Prop := post s0 h
def wp_G_topCode (h : zH) (post : Int32 → zH → Prop) : Prop := (((h.1 31 3) ≤ 0 → b_G_topCode_24 post (0) h) ∧ (¬ (h.1 31 3) ≤ 0 → wp_R_at 32 197 (((h.1 31 3) - 1)) h (fun (r1 : Int32) (h2 : zH) => b_G_topCode_24 post (r1) h2)))
set_option maxRecDepth 100000 in
set_option maxHeartbeats 4000000 in
theorem w_G_topCode_24 {l : Launch} {E : zE} {G : (Nat → Prop) → State → Prop} {p : Program} {e : Env} {s : State} {m : MethodId} {args : Array Value} {below : List Frame} {meth : Method} {c : Code} {A : Nat → Prop} {post : Int32 → zH → Prop} (hG : xGG E G) (C : zCx p s m args meth c E G A 1 21 prog_3_method_5_code 1 cn_G) (hr : meth.sig.returnType = (some .int))  (s0 : Int32) (h : zH) (hw : b_G_topCode_24 post s0 h) : zGo p l e s m args below meth c E A 1 21 1 (zPi post) h 24 [none] [.int s0] := by
  unfold b_G_topCode_24 at hw
  exact z_iret C hr d_G_topCode_24 hw
set_option maxRecDepth 100000 in
set_option maxHeartbeats 4000000 in
theorem t_G_topCode {l : Launch} {E : zE} {G : (Nat → Prop) → State → Prop} (hG : xGG E G) {h : zH} {post : Int32 → zH → Prop} (hw : wp_G_topCode  h post) : Ct l xX E xcl xN zT G 1 21 y_G_topCode prog_3_method_5_code 1 (some .int) [.ref (E.2.2.1 31)] h (zPi post) := by
  unfold wp_G_topCode at hw
  refine Ct.of (by decide) (Nat.le_of_ble_eq_true rfl) ?_
  intro p e s m below meth c A C hr
  refine z_lv (lv2 := [some (.ref (E.2.2.1 31))]) rfl ?_
  refine z_aload_n C (i := 0) d_G_topCode_0 rfl rfl ?_
  refine z_getI C (ci := 6) (j := 3) (F := cf_G) (by decide) rfl rfl in_G (by decide) fl_G_21 rfl d_G_topCode_1 ?_
  refine z_if_le C (tgt := 23) d_G_topCode_4 (by decide) (fun q => ?_) (fun q => ?_)
  · replace hw := hw.1 q
    refine z_iconst C (v := 0) d_G_topCode_23 (by decide) ?_
    refine z_le (lv2 := [none]) (trivial) ?_
    exact w_G_topCode_24 hG C hr _ _ hw
  · replace hw := hw.2 q
    refine z_aload_n C (i := 0) d_G_topCode_7 rfl rfl ?_
    refine z_getS C (ci := 6) (j := 0) (F := cf_G) (by decide) rfl rfl in_G (by decide) fl_G_9 rfl d_G_topCode_8 ?_
    refine z_aload_n C (i := 0) d_G_topCode_11 rfl rfl ?_
    refine z_getI C (ci := 6) (j := 3) (F := cf_G) (by decide) rfl rfl in_G (by decide) fl_G_21 rfl d_G_topCode_12 ?_
    refine z_iconst C (v := 1) d_G_topCode_15 (by decide) ?_
    refine z_isub C d_G_topCode_16 ?_
    refine z_callSNi ⟨xN_ok, hG.1⟩ zT_good C (t_R_at hG hw) wn_R_at nl_G_36 (by decide) (by decide) pl_R_at rfl rfl (Nat.le_of_ble_eq_true rfl) d_G_topCode_17 (fun r1 h2 hw => ?_)
    refine z_goto C (tgt := 24) d_G_topCode_20 (by decide) ?_
    refine z_le (lv2 := [none]) (trivial) ?_
    exact w_G_topCode_24 hG C hr _ _ hw
theorem d_G_pop_0 : decode prog_3_method_4_code 0 = .ok (.aload_n 0, 1) := by decide +kernel
theorem d_G_pop_1 : decode prog_3_method_4_code 1 = .ok (.getfield 21, 3) := by decide +kernel
theorem d_G_pop_4 : decode prog_3_method_4_code 4 = .ok (.ifCond .le (37), 3) := by decide +kernel
theorem d_G_pop_7 : decode prog_3_method_4_code 7 = .ok (.aload_n 0, 1) := by decide +kernel
theorem d_G_pop_8 : decode prog_3_method_4_code 8 = .ok (.dup, 1) := by decide +kernel
theorem d_G_pop_9 : decode prog_3_method_4_code 9 = .ok (.getfield 25, 3) := by decide +kernel
theorem d_G_pop_12 : decode prog_3_method_4_code 12 = .ok (.aload_n 0, 1) := by decide +kernel
theorem d_G_pop_13 : decode prog_3_method_4_code 13 = .ok (.invokevirtual 32, 3) := by decide +kernel
theorem d_G_pop_16 : decode prog_3_method_4_code 16 = .ok (.invokestatic 28, 3) := by decide +kernel
theorem d_G_pop_19 : decode prog_3_method_4_code 19 = .ok (.ifCond .eq (7), 3) := by decide +kernel
theorem d_G_pop_22 : decode prog_3_method_4_code 22 = .ok (.iconst 1, 1) := by decide +kernel
theorem d_G_pop_23 : decode prog_3_method_4_code 23 = .ok (.goto (4), 3) := by decide +kernel
theorem d_G_pop_26 : decode prog_3_method_4_code 26 = .ok (.iconst 0, 1) := by decide +kernel
theorem d_G_pop_27 : decode prog_3_method_4_code 27 = .ok (.isub, 1) := by decide +kernel
theorem d_G_pop_28 : decode prog_3_method_4_code 28 = .ok (.putfield 25, 3) := by decide +kernel
theorem d_G_pop_31 : decode prog_3_method_4_code 31 = .ok (.aload_n 0, 1) := by decide +kernel
theorem d_G_pop_32 : decode prog_3_method_4_code 32 = .ok (.dup, 1) := by decide +kernel
theorem d_G_pop_33 : decode prog_3_method_4_code 33 = .ok (.getfield 21, 3) := by decide +kernel
theorem d_G_pop_36 : decode prog_3_method_4_code 36 = .ok (.iconst 1, 1) := by decide +kernel
theorem d_G_pop_37 : decode prog_3_method_4_code 37 = .ok (.isub, 1) := by decide +kernel
theorem d_G_pop_38 : decode prog_3_method_4_code 38 = .ok (.putfield 21, 3) := by decide +kernel
theorem d_G_pop_41 : decode prog_3_method_4_code 41 = .ok (.return_, 1) := by decide +kernel
def b_G_pop_41 (post : zH → Prop) (h : zH) : Prop := post h
def b_G_pop_27 (post : zH → Prop) (s0 : Int32) (s1 : Int32) (h : zH) : Prop := (∀ h1 : zH, h1 = zi h 31 4 (s1 - s0) → (∀ h2 : zH, h2 = zi h1 31 3 ((h1.1 31 3) - 1) → b_G_pop_41 post  h2))
def wp_G_pop (h : zH) (post : zH → Prop) : Prop := (((h.1 31 3) ≤ 0 → b_G_pop_41 post  h) ∧ (¬ (h.1 31 3) ≤ 0 → wp_G_topCode  h (fun (r3 : Int32) (h4 : zH) => wp_G_nests (r3) h4 (fun (r5 : Int32) (h6 : zH) => ((r5 = 0 → b_G_pop_27 post (0) ((h.1 31 4)) h6) ∧ (¬ r5 = 0 → b_G_pop_27 post (1) ((h.1 31 4)) h6))))))
set_option maxRecDepth 100000 in
set_option maxHeartbeats 4000000 in
theorem w_G_pop_41 {l : Launch} {E : zE} {G : (Nat → Prop) → State → Prop} {p : Program} {e : Env} {s : State} {m : MethodId} {args : Array Value} {below : List Frame} {meth : Method} {c : Code} {A : Nat → Prop} {post : zH → Prop} (hG : xGG E G) (C : zCx p s m args meth c E G A 2 41 prog_3_method_4_code 1 cn_G) (hr : meth.sig.returnType = none)  (h : zH) (hw : b_G_pop_41 post  h) : zGo p l e s m args below meth c E A 2 41 1 (zPv post) h 41 [none] [] := by
  unfold b_G_pop_41 at hw
  exact z_vret C hr d_G_pop_41 hw
set_option maxRecDepth 100000 in
set_option maxHeartbeats 4000000 in
theorem w_G_pop_27 {l : Launch} {E : zE} {G : (Nat → Prop) → State → Prop} {p : Program} {e : Env} {s : State} {m : MethodId} {args : Array Value} {below : List Frame} {meth : Method} {c : Code} {A : Nat → Prop} {post : zH → Prop} (hG : xGG E G) (C : zCx p s m args meth c E G A 2 41 prog_3_method_4_code 1 cn_G) (hr : meth.sig.returnType = none)  (s0 : Int32) (s1 : Int32) (h : zH) (hw : b_G_pop_27 post s0 s1 h) : zGo p l e s m args below meth c E A 2 41 1 (zPv post) h 27 [some (.ref (E.2.2.1 31))] [.int s0, .int s1, .ref (E.2.2.1 31)] := by
  unfold b_G_pop_27 at hw
  refine z_isub C d_G_pop_27 ?_
  refine z_putI C (ci := 6) (j := 4) (F := cf_G) ct_G (by decide) rfl rfl in_G ty_G nm_G (by decide) fl_G_25 rfl (by decide +kernel) rfl d_G_pop_28 (fun h1 eh1 => ?_)
  replace hw := hw h1 eh1
  refine z_aload_n C (i := 0) d_G_pop_31 rfl rfl ?_
  refine z_dup C d_G_pop_32 rfl ?_
  refine z_getI C (ci := 6) (j := 3) (F := cf_G) (by decide) rfl rfl in_G (by decide) fl_G_21 rfl d_G_pop_33 ?_
  refine z_iconst C (v := 1) d_G_pop_36 (by decide) ?_
  refine z_isub C d_G_pop_37 ?_
  refine z_putI C (ci := 6) (j := 3) (F := cf_G) ct_G (by decide) rfl rfl in_G ty_G nm_G (by decide) fl_G_21 rfl (by decide +kernel) rfl d_G_pop_38 (fun h2 eh2 => ?_)
  replace hw := hw h2 eh2
  refine z_le (lv2 := [none]) (trivial) ?_
  exact w_G_pop_41 hG C hr  _ hw
set_option maxRecDepth 100000 in
set_option maxHeartbeats 4000000 in
theorem t_G_pop {l : Launch} {E : zE} {G : (Nat → Prop) → State → Prop} (hG : xGG E G) {h : zH} {post : zH → Prop} (hw : wp_G_pop  h post) : Ct l xX E xcl xN zT G 2 41 y_G_pop prog_3_method_4_code 1 none [.ref (E.2.2.1 31)] h (zPv post) := by
  unfold wp_G_pop at hw
  refine Ct.of (by decide) (Nat.le_of_ble_eq_true rfl) ?_
  intro p e s m below meth c A C hr
  refine z_lv (lv2 := [some (.ref (E.2.2.1 31))]) rfl ?_
  refine z_aload_n C (i := 0) d_G_pop_0 rfl rfl ?_
  refine z_getI C (ci := 6) (j := 3) (F := cf_G) (by decide) rfl rfl in_G (by decide) fl_G_21 rfl d_G_pop_1 ?_
  refine z_if_le C (tgt := 41) d_G_pop_4 (by decide) (fun q => ?_) (fun q => ?_)
  · replace hw := hw.1 q
    refine z_le (lv2 := [none]) (trivial) ?_
    exact w_G_pop_41 hG C hr  _ hw
  · replace hw := hw.2 q
    refine z_aload_n C (i := 0) d_G_pop_7 rfl rfl ?_
    refine z_dup C d_G_pop_8 rfl ?_
    refine z_getI C (ci := 6) (j := 4) (F := cf_G) (by decide) rfl rfl in_G (by decide) fl_G_25 rfl d_G_pop_9 ?_
    refine z_aload_n C (i := 0) d_G_pop_12 rfl rfl ?_
    refine z_callVi ⟨xN_ok, hG.1⟩ zT_good C (t_G_topCode hG hw) ol_G_32 (by decide) rfl rfl (by decide) (by decide) pl_G_topCode rfl rfl (Nat.le_of_ble_eq_true rfl) d_G_pop_13 (fun r3 h4 hw => ?_)
    refine z_callSi ⟨xN_ok, hG.1⟩ zT_good C (t_G_nests hG hw) ol_G_28 (by decide) (by decide) pl_G_nests rfl rfl (Nat.le_of_ble_eq_true rfl) d_G_pop_16 (fun r5 h6 hw => ?_)
    refine z_if_eq C (tgt := 26) d_G_pop_19 (by decide) (fun q => ?_) (fun q => ?_)
    · replace hw := hw.1 q
      refine z_iconst C (v := 0) d_G_pop_26 (by decide) ?_
      refine z_le (lv2 := [some (.ref (E.2.2.1 31))]) (⟨rfl, trivial⟩) ?_
      exact w_G_pop_27 hG C hr _ _ _ hw
    · replace hw := hw.2 q
      refine z_iconst C (v := 1) d_G_pop_22 (by decide) ?_
      refine z_goto C (tgt := 27) d_G_pop_23 (by decide) ?_
      refine z_le (lv2 := [some (.ref (E.2.2.1 31))]) (⟨rfl, trivial⟩) ?_
      exact w_G_pop_27 hG C hr _ _ _ hw
theorem d_G_push_0 : decode prog_3_method_3_code 0 = .ok (.aload_n 0, 1) := by decide +kernel
theorem d_G_push_1 : decode prog_3_method_3_code 1 = .ok (.getfield 21, 3) := by decide +kernel
theorem d_G_push_4 : decode prog_3_method_3_code 4 = .ok (.sipush (197), 3) := by decide +kernel
theorem d_G_push_7 : decode prog_3_method_3_code 7 = .ok (.if_icmp .lt (4), 3) := by decide +kernel
theorem d_G_push_10 : decode prog_3_method_3_code 10 = .ok (.return_, 1) := by decide +kernel
theorem d_G_push_11 : decode prog_3_method_3_code 11 = .ok (.aload_n 0, 1) := by decide +kernel
theorem d_G_push_12 : decode prog_3_method_3_code 12 = .ok (.getfield 9, 3) := by decide +kernel
theorem d_G_push_15 : decode prog_3_method_3_code 15 = .ok (.aload_n 0, 1) := by decide +kernel
theorem d_G_push_16 : decode prog_3_method_3_code 16 = .ok (.getfield 21, 3) := by decide +kernel
theorem d_G_push_19 : decode prog_3_method_3_code 19 = .ok (.iload_n 1, 1) := by decide +kernel
theorem d_G_push_20 : decode prog_3_method_3_code 20 = .ok (.iastore, 1) := by decide +kernel
theorem d_G_push_21 : decode prog_3_method_3_code 21 = .ok (.aload_n 0, 1) := by decide +kernel
theorem d_G_push_22 : decode prog_3_method_3_code 22 = .ok (.getfield 15, 3) := by decide +kernel
theorem d_G_push_25 : decode prog_3_method_3_code 25 = .ok (.aload_n 0, 1) := by decide +kernel
theorem d_G_push_26 : decode prog_3_method_3_code 26 = .ok (.getfield 21, 3) := by decide +kernel
theorem d_G_push_29 : decode prog_3_method_3_code 29 = .ok (.iload_n 2, 1) := by decide +kernel
theorem d_G_push_30 : decode prog_3_method_3_code 30 = .ok (.iastore, 1) := by decide +kernel
theorem d_G_push_31 : decode prog_3_method_3_code 31 = .ok (.aload_n 0, 1) := by decide +kernel
theorem d_G_push_32 : decode prog_3_method_3_code 32 = .ok (.getfield 18, 3) := by decide +kernel
theorem d_G_push_35 : decode prog_3_method_3_code 35 = .ok (.aload_n 0, 1) := by decide +kernel
theorem d_G_push_36 : decode prog_3_method_3_code 36 = .ok (.getfield 21, 3) := by decide +kernel
theorem d_G_push_39 : decode prog_3_method_3_code 39 = .ok (.iload_n 1, 1) := by decide +kernel
theorem d_G_push_40 : decode prog_3_method_3_code 40 = .ok (.bipush (23), 2) := by decide +kernel
theorem d_G_push_42 : decode prog_3_method_3_code 42 = .ok (.if_icmp .eq (15), 3) := by decide +kernel
theorem d_G_push_45 : decode prog_3_method_3_code 45 = .ok (.iload_n 1, 1) := by decide +kernel
theorem d_G_push_46 : decode prog_3_method_3_code 46 = .ok (.bipush (24), 2) := by decide +kernel
theorem d_G_push_48 : decode prog_3_method_3_code 48 = .ok (.if_icmp .eq (9), 3) := by decide +kernel
theorem d_G_push_51 : decode prog_3_method_3_code 51 = .ok (.iload_n 1, 1) := by decide +kernel
theorem d_G_push_52 : decode prog_3_method_3_code 52 = .ok (.bipush (7), 2) := by decide +kernel
theorem d_G_push_54 : decode prog_3_method_3_code 54 = .ok (.if_icmp .ne (7), 3) := by decide +kernel
theorem d_G_push_57 : decode prog_3_method_3_code 57 = .ok (.iconst 1, 1) := by decide +kernel
theorem d_G_push_58 : decode prog_3_method_3_code 58 = .ok (.goto (4), 3) := by decide +kernel
theorem d_G_push_61 : decode prog_3_method_3_code 61 = .ok (.iconst 0, 1) := by decide +kernel
theorem d_G_push_62 : decode prog_3_method_3_code 62 = .ok (.iastore, 1) := by decide +kernel
theorem d_G_push_63 : decode prog_3_method_3_code 63 = .ok (.aload_n 0, 1) := by decide +kernel
theorem d_G_push_64 : decode prog_3_method_3_code 64 = .ok (.dup, 1) := by decide +kernel
theorem d_G_push_65 : decode prog_3_method_3_code 65 = .ok (.getfield 21, 3) := by decide +kernel
theorem d_G_push_68 : decode prog_3_method_3_code 68 = .ok (.iconst 1, 1) := by decide +kernel
theorem d_G_push_69 : decode prog_3_method_3_code 69 = .ok (.iadd, 1) := by decide +kernel
theorem d_G_push_70 : decode prog_3_method_3_code 70 = .ok (.putfield 21, 3) := by decide +kernel
theorem d_G_push_73 : decode prog_3_method_3_code 73 = .ok (.aload_n 0, 1) := by decide +kernel
theorem d_G_push_74 : decode prog_3_method_3_code 74 = .ok (.dup, 1) := by decide +kernel
theorem d_G_push_75 : decode prog_3_method_3_code 75 = .ok (.getfield 25, 3) := by decide +kernel
theorem d_G_push_78 : decode prog_3_method_3_code 78 = .ok (.iload_n 1, 1) := by decide +kernel
theorem d_G_push_79 : decode prog_3_method_3_code 79 = .ok (.invokestatic 28, 3) := by decide +kernel
theorem d_G_push_82 : decode prog_3_method_3_code 82 = .ok (.ifCond .eq (7), 3) := by decide +kernel
theorem d_G_push_85 : decode prog_3_method_3_code 85 = .ok (.iconst 1, 1) := by decide +kernel
theorem d_G_push_86 : decode prog_3_method_3_code 86 = .ok (.goto (4), 3) := by decide +kernel
theorem d_G_push_89 : decode prog_3_method_3_code 89 = .ok (.iconst 0, 1) := by decide +kernel
theorem d_G_push_90 : decode prog_3_method_3_code 90 = .ok (.iadd, 1) := by decide +kernel
theorem d_G_push_91 : decode prog_3_method_3_code 91 = .ok (.putfield 25, 3) := by decide +kernel
theorem d_G_push_94 : decode prog_3_method_3_code 94 = .ok (.return_, 1) := by decide +kernel
def b_G_push_90 (post : zH → Prop) (s0 : Int32) (s1 : Int32) (h : zH) : Prop := (∀ h1 : zH, h1 = zi h 31 4 (s1 + s0) → post h1)
def b_G_push_62 (post : zH → Prop) (l1 : Int32) (s0 : Int32) (s1 : Int32) (h : zH) : Prop := (vp_in s1 197 ∧ ∀ h2 : zH, h2 = zi h 34 (s1 : Int32).toNatClampNeg s0 → (∀ h3 : zH, h3 = zi h2 31 3 ((h2.1 31 3) + 1) → wp_G_nests (l1) h3 (fun (r4 : Int32) (h5 : zH) => ((r4 = 0 → b_G_push_90 post (0) ((h3.1 31 4)) h5) ∧ (¬ r4 = 0 → b_G_push_90 post (1) ((h3.1 31 4)) h5)))))
def b_G_push_57 (post : zH → Prop) (l1 : Int32) (s0 : Int32) (h : zH) : Prop := b_G_push_62 post (l1) (1) (s0) h
def wp_G_push (l1 : Int32) (l2 : Int32) (h : zH) (post : zH → Prop) : Prop := (((h.1 31 3) < 197 → (vp_in (h.1 31 3) 197 ∧ ∀ h6 : zH, h6 = zi h 32 ((h.1 31 3) : Int32).toNatClampNeg l1 → (vp_in (h6.1 31 3) 197 ∧ ∀ h7 : zH, h7 = zi h6 33 ((h6.1 31 3) : Int32).toNatClampNeg l2 → ((l1 = 23 → b_G_push_57 post (l1) ((h7.1 31 3)) h7) ∧ (¬ l1 = 23 → ((l1 = 24 → b_G_push_57 post (l1) ((h7.1 31 3)) h7) ∧ (¬ l1 = 24 → ((¬ l1 = 7 → b_G_push_62 post (l1) (0) ((h7.1 31 3)) h7) ∧ (l1 = 7 → b_G_push_57 post (l1) ((h7.1 31 3)) h7))))))))) ∧ (¬ (h.1 31 3) < 197 → post h))
set_option maxRecDepth 100000 in
set_option maxHeartbeats 4000000 in
theorem w_G_push_90 {l : Launch} {E : zE} {G : (Nat → Prop) → State → Prop} {p : Program} {e : Env} {s : State} {m : MethodId} {args : Array Value} {below : List Frame} {meth : Method} {c : Code} {A : Nat → Prop} {post : zH → Prop} (hG : xGG E G) (C : zCx p s m args meth c E G A 1 20 prog_3_method_3_code 3 cn_G) (hr : meth.sig.returnType = none)  (s0 : Int32) (s1 : Int32) (h : zH) (hw : b_G_push_90 post s0 s1 h) : zGo p l e s m args below meth c E A 1 20 3 (zPv post) h 90 [none, none, none] [.int s0, .int s1, .ref (E.2.2.1 31)] := by
  unfold b_G_push_90 at hw
  refine z_iadd C d_G_push_90 ?_
  refine z_putI C (ci := 6) (j := 4) (F := cf_G) ct_G (by decide) rfl rfl in_G ty_G nm_G (by decide) fl_G_25 rfl (by decide +kernel) rfl d_G_push_91 (fun h1 eh1 => ?_)
  replace hw := hw h1 eh1
  exact z_vret C hr d_G_push_94 hw
set_option maxRecDepth 100000 in
set_option maxHeartbeats 4000000 in
theorem w_G_push_62 {l : Launch} {E : zE} {G : (Nat → Prop) → State → Prop} {p : Program} {e : Env} {s : State} {m : MethodId} {args : Array Value} {below : List Frame} {meth : Method} {c : Code} {A : Nat → Prop} {post : zH → Prop} (hG : xGG E G) (C : zCx p s m args meth c E G A 1 20 prog_3_method_3_code 3 cn_G) (hr : meth.sig.returnType = none)  (l1 : Int32) (s0 : Int32) (s1 : Int32) (h : zH) (hw : b_G_push_62 post l1 s0 s1 h) : zGo p l e s m args below meth c E A 1 20 3 (zPv post) h 62 [some (.ref (E.2.2.1 31)), some (.int l1), none] [.int s0, .int s1, .ref (E.2.2.1 34)] := by
  unfold b_G_push_62 at hw
  refine z_iast C (by decide) rfl hw.1 d_G_push_62 (fun h2 eh2 => ?_)
  replace hw := hw.2 h2 eh2
  refine z_aload_n C (i := 0) d_G_push_63 rfl rfl ?_
  refine z_dup C d_G_push_64 rfl ?_
  refine z_getI C (ci := 6) (j := 3) (F := cf_G) (by decide) rfl rfl in_G (by decide) fl_G_21 rfl d_G_push_65 ?_
  refine z_iconst C (v := 1) d_G_push_68 (by decide) ?_
  refine z_iadd C d_G_push_69 ?_
  refine z_putI C (ci := 6) (j := 3) (F := cf_G) ct_G (by decide) rfl rfl in_G ty_G nm_G (by decide) fl_G_21 rfl (by decide +kernel) rfl d_G_push_70 (fun h3 eh3 => ?_)
  replace hw := hw h3 eh3
  refine z_aload_n C (i := 0) d_G_push_73 rfl rfl ?_
  refine z_dup C d_G_push_74 rfl ?_
  refine z_getI C (ci := 6) (j := 4) (F := cf_G) (by decide) rfl rfl in_G (by decide) fl_G_25 rfl d_G_push_75 ?_
  refine z_iload_n C (i := 1) d_G_push_78 rfl rfl ?_
  refine z_callSi ⟨xN_ok, hG.1⟩ zT_good C (t_G_nests hG hw) ol_G_28 (by decide) (by decide) pl_G_nests rfl rfl (Nat.le_of_ble_eq_true rfl) d_G_push_79 (fun r4 h5 hw => ?_)
  refine z_if_eq C (tgt := 89) d_G_push_82 (by decide) (fun q => ?_) (fun q => ?_)
  · replace hw := hw.1 q
    refine z_iconst C (v := 0) d_G_push_89 (by decide) ?_
    refine z_le (lv2 := [none, none, none]) (trivial) ?_
    exact w_G_push_90 hG C hr _ _ _ hw
  · replace hw := hw.2 q
    refine z_iconst C (v := 1) d_G_push_85 (by decide) ?_
    refine z_goto C (tgt := 90) d_G_push_86 (by decide) ?_
    refine z_le (lv2 := [none, none, none]) (trivial) ?_
    exact w_G_push_90 hG C hr _ _ _ hw
set_option maxRecDepth 100000 in
set_option maxHeartbeats 4000000 in
theorem w_G_push_57 {l : Launch} {E : zE} {G : (Nat → Prop) → State → Prop} {p : Program} {e : Env} {s : State} {m : MethodId} {args : Array Value} {below : List Frame} {meth : Method} {c : Code} {A : Nat → Prop} {post : zH → Prop} (hG : xGG E G) (C : zCx p s m args meth c E G A 1 20 prog_3_method_3_code 3 cn_G) (hr : meth.sig.returnType = none)  (l1 : Int32) (s0 : Int32) (h : zH) (hw : b_G_push_57 post l1 s0 h) : zGo p l e s m args below meth c E A 1 20 3 (zPv post) h 57 [some (.ref (E.2.2.1 31)), some (.int l1), none] [.int s0, .ref (E.2.2.1 34)] := by
  unfold b_G_push_57 at hw
  refine z_iconst C (v := 1) d_G_push_57 (by decide) ?_
  refine z_goto C (tgt := 62) d_G_push_58 (by decide) ?_
  refine z_le (lv2 := [some (.ref (E.2.2.1 31)), some (.int l1), none]) (⟨rfl, ⟨rfl, trivial⟩⟩) ?_
  exact w_G_push_62 hG C hr _ _ _ _ hw
set_option maxRecDepth 100000 in
set_option maxHeartbeats 4000000 in
theorem t_G_push {l : Launch} {E : zE} {G : (Nat → Prop) → State → Prop} (hG : xGG E G) {l1 : Int32} {l2 : Int32} {h : zH} {post : zH → Prop} (hw : wp_G_push l1 l2 h post) : Ct l xX E xcl xN zT G 1 20 y_G_push prog_3_method_3_code 3 none [.ref (E.2.2.1 31), .int l1, .int l2] h (zPv post) := by
  unfold wp_G_push at hw
  refine Ct.of (by decide) (Nat.le_of_ble_eq_true rfl) ?_
  intro p e s m below meth c A C hr
  refine z_lv (lv2 := [some (.ref (E.2.2.1 31)), some (.int l1), some (.int l2)]) rfl ?_
  refine z_aload_n C (i := 0) d_G_push_0 rfl rfl ?_
  refine z_getI C (ci := 6) (j := 3) (F := cf_G) (by decide) rfl rfl in_G (by decide) fl_G_21 rfl d_G_push_1 ?_
  refine z_sipush C (v := 197) d_G_push_4 (by decide) ?_
  refine z_icmp_lt C (tgt := 11) d_G_push_7 (by decide) (fun q => ?_) (fun q => ?_)
  · replace hw := hw.1 q
    refine z_aload_n C (i := 0) d_G_push_11 rfl rfl ?_
    refine z_getS C (ci := 6) (j := 0) (F := cf_G) (by decide) rfl rfl in_G (by decide) fl_G_9 rfl d_G_push_12 ?_
    refine z_aload_n C (i := 0) d_G_push_15 rfl rfl ?_
    refine z_getI C (ci := 6) (j := 3) (F := cf_G) (by decide) rfl rfl in_G (by decide) fl_G_21 rfl d_G_push_16 ?_
    refine z_iload_n C (i := 1) d_G_push_19 rfl rfl ?_
    refine z_iast C (by decide) rfl hw.1 d_G_push_20 (fun h6 eh6 => ?_)
    replace hw := hw.2 h6 eh6
    refine z_aload_n C (i := 0) d_G_push_21 rfl rfl ?_
    refine z_getS C (ci := 6) (j := 1) (F := cf_G) (by decide) rfl rfl in_G (by decide) fl_G_15 rfl d_G_push_22 ?_
    refine z_aload_n C (i := 0) d_G_push_25 rfl rfl ?_
    refine z_getI C (ci := 6) (j := 3) (F := cf_G) (by decide) rfl rfl in_G (by decide) fl_G_21 rfl d_G_push_26 ?_
    refine z_iload_n C (i := 2) d_G_push_29 rfl rfl ?_
    refine z_iast C (by decide) rfl hw.1 d_G_push_30 (fun h7 eh7 => ?_)
    replace hw := hw.2 h7 eh7
    refine z_aload_n C (i := 0) d_G_push_31 rfl rfl ?_
    refine z_getS C (ci := 6) (j := 2) (F := cf_G) (by decide) rfl rfl in_G (by decide) fl_G_18 rfl d_G_push_32 ?_
    refine z_aload_n C (i := 0) d_G_push_35 rfl rfl ?_
    refine z_getI C (ci := 6) (j := 3) (F := cf_G) (by decide) rfl rfl in_G (by decide) fl_G_21 rfl d_G_push_36 ?_
    refine z_iload_n C (i := 1) d_G_push_39 rfl rfl ?_
    refine z_bipush C (v := 23) d_G_push_40 (by decide) ?_
    refine z_icmp_eq C (tgt := 57) d_G_push_42 (by decide) (fun q => ?_) (fun q => ?_)
    · replace hw := hw.1 q
      refine z_le (lv2 := [some (.ref (E.2.2.1 31)), some (.int l1), none]) (⟨rfl, ⟨rfl, trivial⟩⟩) ?_
      exact w_G_push_57 hG C hr _ _ _ hw
    · replace hw := hw.2 q
      refine z_iload_n C (i := 1) d_G_push_45 rfl rfl ?_
      refine z_bipush C (v := 24) d_G_push_46 (by decide) ?_
      refine z_icmp_eq C (tgt := 57) d_G_push_48 (by decide) (fun q => ?_) (fun q => ?_)
      · replace hw := hw.1 q
        refine z_le (lv2 := [some (.ref (E.2.2.1 31)), some (.int l1), none]) (⟨rfl, ⟨rfl, trivial⟩⟩) ?_
        exact w_G_push_57 hG C hr _ _ _ hw
      · replace hw := hw.2 q
        refine z_iload_n C (i := 1) d_G_push_51 rfl rfl ?_
        refine z_bipush C (v := 7) d_G_push_52 (by decide) ?_
        refine z_icmp_ne C (tgt := 61) d_G_push_54 (by decide) (fun q => ?_) (fun q => ?_)
        · replace hw := hw.1 q
          refine z_iconst C (v := 0) d_G_push_61 (by decide) ?_
          refine z_le (lv2 := [some (.ref (E.2.2.1 31)), some (.int l1), none]) (⟨rfl, ⟨rfl, trivial⟩⟩) ?_
          exact w_G_push_62 hG C hr _ _ _ _ hw
        · replace hw := hw.2 q
          refine z_le (lv2 := [some (.ref (E.2.2.1 31)), some (.int l1), none]) (⟨rfl, ⟨rfl, trivial⟩⟩) ?_
          exact w_G_push_57 hG C hr _ _ _ hw
  · replace hw := hw.2 q
    exact z_vret C hr d_G_push_10 hw
theorem d_G_topAwaited_0 : decode prog_3_method_7_code 0 = .ok (.aload_n 0, 1) := by decide +kernel
theorem d_G_topAwaited_1 : decode prog_3_method_7_code 1 = .ok (.getfield 18, 3) := by decide +kernel
theorem d_G_topAwaited_4 : decode prog_3_method_7_code 4 = .ok (.aload_n 0, 1) := by decide +kernel
theorem d_G_topAwaited_5 : decode prog_3_method_7_code 5 = .ok (.getfield 21, 3) := by decide +kernel
theorem d_G_topAwaited_8 : decode prog_3_method_7_code 8 = .ok (.iconst 1, 1) := by decide +kernel
theorem d_G_topAwaited_9 : decode prog_3_method_7_code 9 = .ok (.isub, 1) := by decide +kernel
theorem d_G_topAwaited_10 : decode prog_3_method_7_code 10 = .ok (.invokestatic 36, 3) := by decide +kernel
theorem d_G_topAwaited_13 : decode prog_3_method_7_code 13 = .ok (.ireturn, 1) := by decide +kernel
def wp_G_topAwaited (h : zH) (post : Int32 → zH → Prop) : Prop := wp_R_at 34 197 (((h.1 31 3) - 1)) h (fun (r1 : Int32) (h2 : zH) => post r1 h2)
set_option maxRecDepth 100000 in
set_option maxHeartbeats 4000000 in
theorem t_G_topAwaited {l : Launch} {E : zE} {G : (Nat → Prop) → State → Prop} (hG : xGG E G) {h : zH} {post : Int32 → zH → Prop} (hw : wp_G_topAwaited  h post) : Ct l xX E xcl xN zT G 1 21 y_G_topAwaited prog_3_method_7_code 1 (some .int) [.ref (E.2.2.1 31)] h (zPi post) := by
  unfold wp_G_topAwaited at hw
  refine Ct.of (by decide) (Nat.le_of_ble_eq_true rfl) ?_
  intro p e s m below meth c A C hr
  refine z_lv (lv2 := [some (.ref (E.2.2.1 31))]) rfl ?_
  refine z_aload_n C (i := 0) d_G_topAwaited_0 rfl rfl ?_
  refine z_getS C (ci := 6) (j := 2) (F := cf_G) (by decide) rfl rfl in_G (by decide) fl_G_18 rfl d_G_topAwaited_1 ?_
  refine z_aload_n C (i := 0) d_G_topAwaited_4 rfl rfl ?_
  refine z_getI C (ci := 6) (j := 3) (F := cf_G) (by decide) rfl rfl in_G (by decide) fl_G_21 rfl d_G_topAwaited_5 ?_
  refine z_iconst C (v := 1) d_G_topAwaited_8 (by decide) ?_
  refine z_isub C d_G_topAwaited_9 ?_
  refine z_callSNi ⟨xN_ok, hG.1⟩ zT_good C (t_R_at hG hw) wn_R_at nl_G_36 (by decide) (by decide) pl_R_at rfl rfl (Nat.le_of_ble_eq_true rfl) d_G_topAwaited_10 (fun r1 h2 hw => ?_)
  exact z_iret C hr d_G_topAwaited_13 hw
theorem d_G_topPlace_0 : decode prog_3_method_6_code 0 = .ok (.aload_n 0, 1) := by decide +kernel
theorem d_G_topPlace_1 : decode prog_3_method_6_code 1 = .ok (.getfield 15, 3) := by decide +kernel
theorem d_G_topPlace_4 : decode prog_3_method_6_code 4 = .ok (.aload_n 0, 1) := by decide +kernel
theorem d_G_topPlace_5 : decode prog_3_method_6_code 5 = .ok (.getfield 21, 3) := by decide +kernel
theorem d_G_topPlace_8 : decode prog_3_method_6_code 8 = .ok (.iconst 1, 1) := by decide +kernel
theorem d_G_topPlace_9 : decode prog_3_method_6_code 9 = .ok (.isub, 1) := by decide +kernel
theorem d_G_topPlace_10 : decode prog_3_method_6_code 10 = .ok (.invokestatic 36, 3) := by decide +kernel
theorem d_G_topPlace_13 : decode prog_3_method_6_code 13 = .ok (.ireturn, 1) := by decide +kernel
def wp_G_topPlace (h : zH) (post : Int32 → zH → Prop) : Prop := wp_R_at 33 197 (((h.1 31 3) - 1)) h (fun (r1 : Int32) (h2 : zH) => post r1 h2)
set_option maxRecDepth 100000 in
set_option maxHeartbeats 4000000 in
theorem t_G_topPlace {l : Launch} {E : zE} {G : (Nat → Prop) → State → Prop} (hG : xGG E G) {h : zH} {post : Int32 → zH → Prop} (hw : wp_G_topPlace  h post) : Ct l xX E xcl xN zT G 1 21 y_G_topPlace prog_3_method_6_code 1 (some .int) [.ref (E.2.2.1 31)] h (zPi post) := by
  unfold wp_G_topPlace at hw
  refine Ct.of (by decide) (Nat.le_of_ble_eq_true rfl) ?_
  intro p e s m below meth c A C hr
  refine z_lv (lv2 := [some (.ref (E.2.2.1 31))]) rfl ?_
  refine z_aload_n C (i := 0) d_G_topPlace_0 rfl rfl ?_
  refine z_getS C (ci := 6) (j := 1) (F := cf_G) (by decide) rfl rfl in_G (by decide) fl_G_15 rfl d_G_topPlace_1 ?_
  refine z_aload_n C (i := 0) d_G_topPlace_4 rfl rfl ?_
  refine z_getI C (ci := 6) (j := 3) (F := cf_G) (by decide) rfl rfl in_G (by decide) fl_G_21 rfl d_G_topPlace_5 ?_
  refine z_iconst C (v := 1) d_G_topPlace_8 (by decide) ?_
  refine z_isub C d_G_topPlace_9 ?_
  refine z_callSNi ⟨xN_ok, hG.1⟩ zT_good C (t_R_at hG hw) wn_R_at nl_G_36 (by decide) (by decide) pl_R_at rfl rfl (Nat.le_of_ble_eq_true rfl) d_G_topPlace_10 (fun r1 h2 hw => ?_)
  exact z_iret C hr d_G_topPlace_13 hw
theorem d_R_strengthOf_0 : decode prog_1_method_15_code 0 = .ok (.iload_n 0, 1) := by decide +kernel
theorem d_R_strengthOf_1 : decode prog_1_method_15_code 1 = .ok (.tableswitch (100) (9) (26) #[93, 93, 95, 95, 95, 91, 91, 91, 91, 91, 91, 97, 89, 87, 100, 100, 100, 97], 87) := by decide +kernel
theorem d_R_strengthOf_88 : decode prog_1_method_15_code 88 = .ok (.iconst 1, 1) := by decide +kernel
theorem d_R_strengthOf_89 : decode prog_1_method_15_code 89 = .ok (.ireturn, 1) := by decide +kernel
theorem d_R_strengthOf_90 : decode prog_1_method_15_code 90 = .ok (.iconst 2, 1) := by decide +kernel
theorem d_R_strengthOf_91 : decode prog_1_method_15_code 91 = .ok (.ireturn, 1) := by decide +kernel
theorem d_R_strengthOf_92 : decode prog_1_method_15_code 92 = .ok (.iconst 3, 1) := by decide +kernel
theorem d_R_strengthOf_93 : decode prog_1_method_15_code 93 = .ok (.ireturn, 1) := by decide +kernel
theorem d_R_strengthOf_94 : decode prog_1_method_15_code 94 = .ok (.iconst 4, 1) := by decide +kernel
theorem d_R_strengthOf_95 : decode prog_1_method_15_code 95 = .ok (.ireturn, 1) := by decide +kernel
theorem d_R_strengthOf_96 : decode prog_1_method_15_code 96 = .ok (.iconst 5, 1) := by decide +kernel
theorem d_R_strengthOf_97 : decode prog_1_method_15_code 97 = .ok (.ireturn, 1) := by decide +kernel
theorem d_R_strengthOf_98 : decode prog_1_method_15_code 98 = .ok (.bipush (6), 2) := by decide +kernel
theorem d_R_strengthOf_100 : decode prog_1_method_15_code 100 = .ok (.ireturn, 1) := by decide +kernel
theorem d_R_strengthOf_101 : decode prog_1_method_15_code 101 = .ok (.iconst (-1), 1) := by decide +kernel
theorem d_R_strengthOf_102 : decode prog_1_method_15_code 102 = .ok (.ireturn, 1) := by decide +kernel
def b_R_strengthOf_92 (post : Int32 → zH → Prop) (h : zH) : Prop := post 3 h
def b_R_strengthOf_94 (post : Int32 → zH → Prop) (h : zH) : Prop := post 4 h
def b_R_strengthOf_96 (post : Int32 → zH → Prop) (h : zH) : Prop := post 5 h
def b_R_strengthOf_98 (post : Int32 → zH → Prop) (h : zH) : Prop := post 6 h
def b_R_strengthOf_101 (post : Int32 → zH → Prop) (h : zH) : Prop := post (-1) h
def wp_R_strengthOf (l0 : Int32) (h : zH) (post : Int32 → zH → Prop) : Prop := ((l0 = 9 → b_R_strengthOf_94 post  h) ∧ (¬ l0 = 9 → ((l0 = 10 → b_R_strengthOf_94 post  h) ∧ (¬ l0 = 10 → ((l0 = 11 → b_R_strengthOf_96 post  h) ∧ (¬ l0 = 11 → ((l0 = 12 → b_R_strengthOf_96 post  h) ∧ (¬ l0 = 12 → ((l0 = 13 → b_R_strengthOf_96 post  h) ∧ (¬ l0 = 13 → ((l0 = 14 → b_R_strengthOf_92 post  h) ∧ (¬ l0 = 14 → ((l0 = 15 → b_R_strengthOf_92 post  h) ∧ (¬ l0 = 15 → ((l0 = 16 → b_R_strengthOf_92 post  h) ∧ (¬ l0 = 16 → ((l0 = 17 → b_R_strengthOf_92 post  h) ∧ (¬ l0 = 17 → ((l0 = 18 → b_R_strengthOf_92 post  h) ∧ (¬ l0 = 18 → ((l0 = 19 → b_R_strengthOf_92 post  h) ∧ (¬ l0 = 19 → ((l0 = 20 → b_R_strengthOf_98 post  h) ∧ (¬ l0 = 20 → ((l0 = 21 → post 2 h) ∧ (¬ l0 = 21 → ((l0 = 22 → post 1 h) ∧ (¬ l0 = 22 → ((l0 = 23 → b_R_strengthOf_101 post  h) ∧ (¬ l0 = 23 → ((l0 = 24 → b_R_strengthOf_101 post  h) ∧ (¬ l0 = 24 → ((l0 = 25 → b_R_strengthOf_101 post  h) ∧ (¬ l0 = 25 → ((l0 = 26 → b_R_strengthOf_98 post  h) ∧ (¬ l0 = 26 → b_R_strengthOf_101 post  h))))))))))))))))))))))))))))))))))))
set_option maxRecDepth 100000 in
set_option maxHeartbeats 4000000 in
theorem w_R_strengthOf_92 {l : Launch} {E : zE} {G : (Nat → Prop) → State → Prop} {p : Program} {e : Env} {s : State} {m : MethodId} {args : Array Value} {below : List Frame} {meth : Method} {c : Code} {A : Nat → Prop} {post : Int32 → zH → Prop} (hG : xGG E G) (C : zCx p s m args meth c E G A 0 0 prog_1_method_15_code 1 cn_R) (hr : meth.sig.returnType = (some .int))  (h : zH) (hw : b_R_strengthOf_92 post  h) : zGo p l e s m args below meth c E A 0 0 1 (zPi post) h 92 [none] [] := by
  unfold b_R_strengthOf_92 at hw
  refine z_iconst C (v := 3) d_R_strengthOf_92 (by decide) ?_
  exact z_iret C hr d_R_strengthOf_93 hw
set_option maxRecDepth 100000 in
set_option maxHeartbeats 4000000 in
theorem w_R_strengthOf_94 {l : Launch} {E : zE} {G : (Nat → Prop) → State → Prop} {p : Program} {e : Env} {s : State} {m : MethodId} {args : Array Value} {below : List Frame} {meth : Method} {c : Code} {A : Nat → Prop} {post : Int32 → zH → Prop} (hG : xGG E G) (C : zCx p s m args meth c E G A 0 0 prog_1_method_15_code 1 cn_R) (hr : meth.sig.returnType = (some .int))  (h : zH) (hw : b_R_strengthOf_94 post  h) : zGo p l e s m args below meth c E A 0 0 1 (zPi post) h 94 [none] [] := by
  unfold b_R_strengthOf_94 at hw
  refine z_iconst C (v := 4) d_R_strengthOf_94 (by decide) ?_
  exact z_iret C hr d_R_strengthOf_95 hw
set_option maxRecDepth 100000 in
set_option maxHeartbeats 4000000 in
theorem w_R_strengthOf_96 {l : Launch} {E : zE} {G : (Nat → Prop) → State → Prop} {p : Program} {e : Env} {s : State} {m : MethodId} {args : Array Value} {below : List Frame} {meth : Method} {c : Code} {A : Nat → Prop} {post : Int32 → zH → Prop} (hG : xGG E G) (C : zCx p s m args meth c E G A 0 0 prog_1_method_15_code 1 cn_R) (hr : meth.sig.returnType = (some .int))  (h : zH) (hw : b_R_strengthOf_96 post  h) : zGo p l e s m args below meth c E A 0 0 1 (zPi post) h 96 [none] [] := by
  unfold b_R_strengthOf_96 at hw
  refine z_iconst C (v := 5) d_R_strengthOf_96 (by decide) ?_
  exact z_iret C hr d_R_strengthOf_97 hw
set_option maxRecDepth 100000 in
set_option maxHeartbeats 4000000 in
theorem w_R_strengthOf_98 {l : Launch} {E : zE} {G : (Nat → Prop) → State → Prop} {p : Program} {e : Env} {s : State} {m : MethodId} {args : Array Value} {below : List Frame} {meth : Method} {c : Code} {A : Nat → Prop} {post : Int32 → zH → Prop} (hG : xGG E G) (C : zCx p s m args meth c E G A 0 0 prog_1_method_15_code 1 cn_R) (hr : meth.sig.returnType = (some .int))  (h : zH) (hw : b_R_strengthOf_98 post  h) : zGo p l e s m args below meth c E A 0 0 1 (zPi post) h 98 [none] [] := by
  unfold b_R_strengthOf_98 at hw
  refine z_bipush C (v := 6) d_R_strengthOf_98 (by decide) ?_
  exact z_iret C hr d_R_strengthOf_100 hw
set_option maxRecDepth 100000 in
set_option maxHeartbeats 4000000 in
theorem w_R_strengthOf_101 {l : Launch} {E : zE} {G : (Nat → Prop) → State → Prop} {p : Program} {e : Env} {s : State} {m : MethodId} {args : Array Value} {below : List Frame} {meth : Method} {c : Code} {A : Nat → Prop} {post : Int32 → zH → Prop} (hG : xGG E G) (C : zCx p s m args meth c E G A 0 0 prog_1_method_15_code 1 cn_R) (hr : meth.sig.returnType = (some .int))  (h : zH) (hw : b_R_strengthOf_101 post  h) : zGo p l e s m args below meth c E A 0 0 1 (zPi post) h 101 [none] [] := by
  unfold b_R_strengthOf_101 at hw
  refine z_iconst C (v := (-1)) d_R_strengthOf_101 (by decide) ?_
  exact z_iret C hr d_R_strengthOf_102 hw
set_option maxRecDepth 100000 in
set_option maxHeartbeats 4000000 in
theorem t_R_strengthOf {l : Launch} {E : zE} {G : (Nat → Prop) → State → Prop} (hG : xGG E G) {l0 : Int32} {h : zH} {post : Int32 → zH → Prop} (hw : wp_R_strengthOf l0 h post) : Ct l xX E xcl xN zT G 0 0 y_R_strengthOf prog_1_method_15_code 1 (some .int) [.int l0] h (zPi post) := by
  unfold wp_R_strengthOf at hw
  refine Ct.of (by decide) (Nat.le_of_ble_eq_true rfl) ?_
  intro p e s m below meth c A C hr
  refine z_lv (lv2 := [some (.int l0)]) rfl ?_
  refine z_iload_n C (i := 0) d_R_strengthOf_0 rfl rfl ?_
  refine z_tcase C (off := 93) (tgt := 94) (9 : Int32) d_R_strengthOf_1 (by decide) (by decide) rfl (by decide) (fun q0 => ?_) (fun q0 => ?_)
  · replace hw := hw.1 q0
    refine z_le (lv2 := [none]) (trivial) ?_
    exact w_R_strengthOf_94 hG C hr  _ hw
  replace hw := hw.2 q0
  refine z_tcase C (off := 93) (tgt := 94) (10 : Int32) d_R_strengthOf_1 (by decide) (by decide) rfl (by decide) (fun q1 => ?_) (fun q1 => ?_)
  · replace hw := hw.1 q1
    refine z_le (lv2 := [none]) (trivial) ?_
    exact w_R_strengthOf_94 hG C hr  _ hw
  replace hw := hw.2 q1
  refine z_tcase C (off := 95) (tgt := 96) (11 : Int32) d_R_strengthOf_1 (by decide) (by decide) rfl (by decide) (fun q2 => ?_) (fun q2 => ?_)
  · replace hw := hw.1 q2
    refine z_le (lv2 := [none]) (trivial) ?_
    exact w_R_strengthOf_96 hG C hr  _ hw
  replace hw := hw.2 q2
  refine z_tcase C (off := 95) (tgt := 96) (12 : Int32) d_R_strengthOf_1 (by decide) (by decide) rfl (by decide) (fun q3 => ?_) (fun q3 => ?_)
  · replace hw := hw.1 q3
    refine z_le (lv2 := [none]) (trivial) ?_
    exact w_R_strengthOf_96 hG C hr  _ hw
  replace hw := hw.2 q3
  refine z_tcase C (off := 95) (tgt := 96) (13 : Int32) d_R_strengthOf_1 (by decide) (by decide) rfl (by decide) (fun q4 => ?_) (fun q4 => ?_)
  · replace hw := hw.1 q4
    refine z_le (lv2 := [none]) (trivial) ?_
    exact w_R_strengthOf_96 hG C hr  _ hw
  replace hw := hw.2 q4
  refine z_tcase C (off := 91) (tgt := 92) (14 : Int32) d_R_strengthOf_1 (by decide) (by decide) rfl (by decide) (fun q5 => ?_) (fun q5 => ?_)
  · replace hw := hw.1 q5
    refine z_le (lv2 := [none]) (trivial) ?_
    exact w_R_strengthOf_92 hG C hr  _ hw
  replace hw := hw.2 q5
  refine z_tcase C (off := 91) (tgt := 92) (15 : Int32) d_R_strengthOf_1 (by decide) (by decide) rfl (by decide) (fun q6 => ?_) (fun q6 => ?_)
  · replace hw := hw.1 q6
    refine z_le (lv2 := [none]) (trivial) ?_
    exact w_R_strengthOf_92 hG C hr  _ hw
  replace hw := hw.2 q6
  refine z_tcase C (off := 91) (tgt := 92) (16 : Int32) d_R_strengthOf_1 (by decide) (by decide) rfl (by decide) (fun q7 => ?_) (fun q7 => ?_)
  · replace hw := hw.1 q7
    refine z_le (lv2 := [none]) (trivial) ?_
    exact w_R_strengthOf_92 hG C hr  _ hw
  replace hw := hw.2 q7
  refine z_tcase C (off := 91) (tgt := 92) (17 : Int32) d_R_strengthOf_1 (by decide) (by decide) rfl (by decide) (fun q8 => ?_) (fun q8 => ?_)
  · replace hw := hw.1 q8
    refine z_le (lv2 := [none]) (trivial) ?_
    exact w_R_strengthOf_92 hG C hr  _ hw
  replace hw := hw.2 q8
  refine z_tcase C (off := 91) (tgt := 92) (18 : Int32) d_R_strengthOf_1 (by decide) (by decide) rfl (by decide) (fun q9 => ?_) (fun q9 => ?_)
  · replace hw := hw.1 q9
    refine z_le (lv2 := [none]) (trivial) ?_
    exact w_R_strengthOf_92 hG C hr  _ hw
  replace hw := hw.2 q9
  refine z_tcase C (off := 91) (tgt := 92) (19 : Int32) d_R_strengthOf_1 (by decide) (by decide) rfl (by decide) (fun q10 => ?_) (fun q10 => ?_)
  · replace hw := hw.1 q10
    refine z_le (lv2 := [none]) (trivial) ?_
    exact w_R_strengthOf_92 hG C hr  _ hw
  replace hw := hw.2 q10
  refine z_tcase C (off := 97) (tgt := 98) (20 : Int32) d_R_strengthOf_1 (by decide) (by decide) rfl (by decide) (fun q11 => ?_) (fun q11 => ?_)
  · replace hw := hw.1 q11
    refine z_le (lv2 := [none]) (trivial) ?_
    exact w_R_strengthOf_98 hG C hr  _ hw
  replace hw := hw.2 q11
  refine z_tcase C (off := 89) (tgt := 90) (21 : Int32) d_R_strengthOf_1 (by decide) (by decide) rfl (by decide) (fun q12 => ?_) (fun q12 => ?_)
  · replace hw := hw.1 q12
    refine z_iconst C (v := 2) d_R_strengthOf_90 (by decide) ?_
    exact z_iret C hr d_R_strengthOf_91 hw
  replace hw := hw.2 q12
  refine z_tcase C (off := 87) (tgt := 88) (22 : Int32) d_R_strengthOf_1 (by decide) (by decide) rfl (by decide) (fun q13 => ?_) (fun q13 => ?_)
  · replace hw := hw.1 q13
    refine z_iconst C (v := 1) d_R_strengthOf_88 (by decide) ?_
    exact z_iret C hr d_R_strengthOf_89 hw
  replace hw := hw.2 q13
  refine z_tcase C (off := 100) (tgt := 101) (23 : Int32) d_R_strengthOf_1 (by decide) (by decide) rfl (by decide) (fun q14 => ?_) (fun q14 => ?_)
  · replace hw := hw.1 q14
    refine z_le (lv2 := [none]) (trivial) ?_
    exact w_R_strengthOf_101 hG C hr  _ hw
  replace hw := hw.2 q14
  refine z_tcase C (off := 100) (tgt := 101) (24 : Int32) d_R_strengthOf_1 (by decide) (by decide) rfl (by decide) (fun q15 => ?_) (fun q15 => ?_)
  · replace hw := hw.1 q15
    refine z_le (lv2 := [none]) (trivial) ?_
    exact w_R_strengthOf_101 hG C hr  _ hw
  replace hw := hw.2 q15
  refine z_tcase C (off := 100) (tgt := 101) (25 : Int32) d_R_strengthOf_1 (by decide) (by decide) rfl (by decide) (fun q16 => ?_) (fun q16 => ?_)
  · replace hw := hw.1 q16
    refine z_le (lv2 := [none]) (trivial) ?_
    exact w_R_strengthOf_101 hG C hr  _ hw
  replace hw := hw.2 q16
  refine z_tcase C (off := 97) (tgt := 98) (26 : Int32) d_R_strengthOf_1 (by decide) (by decide) rfl (by decide) (fun q17 => ?_) (fun q17 => ?_)
  · replace hw := hw.1 q17
    refine z_le (lv2 := [none]) (trivial) ?_
    exact w_R_strengthOf_98 hG C hr  _ hw
  replace hw := hw.2 q17
  refine z_tabOut C (tgt := 101) d_R_strengthOf_1 (by have e0 := lv_neT q0 (a := 9) rfl; have e1 := lv_neT q1 (a := 10) rfl; have e2 := lv_neT q2 (a := 11) rfl; have e3 := lv_neT q3 (a := 12) rfl; have e4 := lv_neT q4 (a := 13) rfl; have e5 := lv_neT q5 (a := 14) rfl; have e6 := lv_neT q6 (a := 15) rfl; have e7 := lv_neT q7 (a := 16) rfl; have e8 := lv_neT q8 (a := 17) rfl; have e9 := lv_neT q9 (a := 18) rfl; have e10 := lv_neT q10 (a := 19) rfl; have e11 := lv_neT q11 (a := 20) rfl; have e12 := lv_neT q12 (a := 21) rfl; have e13 := lv_neT q13 (a := 22) rfl; have e14 := lv_neT q14 (a := 23) rfl; have e15 := lv_neT q15 (a := 24) rfl; have e16 := lv_neT q16 (a := 25) rfl; have e17 := lv_neT q17 (a := 26) rfl; omega) (by decide) ?_
  refine z_le (lv2 := [none]) (trivial) ?_
  exact w_R_strengthOf_101 hG C hr  _ hw
theorem d_G_topStrength_0 : decode prog_3_method_9_code 0 = .ok (.aload_n 0, 1) := by decide +kernel
theorem d_G_topStrength_1 : decode prog_3_method_9_code 1 = .ok (.invokevirtual 32, 3) := by decide +kernel
theorem d_G_topStrength_4 : decode prog_3_method_9_code 4 = .ok (.bipush (7), 2) := by decide +kernel
theorem d_G_topStrength_6 : decode prog_3_method_9_code 6 = .ok (.if_icmp .ne (16), 3) := by decide +kernel
theorem d_G_topStrength_9 : decode prog_3_method_9_code 9 = .ok (.aload_n 0, 1) := by decide +kernel
theorem d_G_topStrength_10 : decode prog_3_method_9_code 10 = .ok (.invokevirtual 40, 3) := by decide +kernel
theorem d_G_topStrength_13 : decode prog_3_method_9_code 13 = .ok (.ifCond .ne (7), 3) := by decide +kernel
theorem d_G_topStrength_16 : decode prog_3_method_9_code 16 = .ok (.iconst 0, 1) := by decide +kernel
theorem d_G_topStrength_17 : decode prog_3_method_9_code 17 = .ok (.goto (4), 3) := by decide +kernel
theorem d_G_topStrength_20 : decode prog_3_method_9_code 20 = .ok (.iconst (-1), 1) := by decide +kernel
theorem d_G_topStrength_21 : decode prog_3_method_9_code 21 = .ok (.ireturn, 1) := by decide +kernel
theorem d_G_topStrength_22 : decode prog_3_method_9_code 22 = .ok (.aload_n 0, 1) := by decide +kernel
theorem d_G_topStrength_23 : decode prog_3_method_9_code 23 = .ok (.invokevirtual 32, 3) := by decide +kernel
theorem d_G_topStrength_26 : decode prog_3_method_9_code 26 = .ok (.invokestatic 43, 3) := by decide +kernel
theorem d_G_topStrength_29 : decode prog_3_method_9_code 29 = .ok (.ireturn, 1) := by decide +kernel
def b_G_topStrength_21 (post : Int32 → zH → Prop) (s0 : Int32) (h : zH) : Prop := post s0 h
def wp_G_topStrength (h : zH) (post : Int32 → zH → Prop) : Prop := wp_G_topCode  h (fun (r1 : Int32) (h2 : zH) => ((¬ r1 = 7 → wp_G_topCode  h2 (fun (r3 : Int32) (h4 : zH) => wp_R_strengthOf (r3) h4 (fun (r5 : Int32) (h6 : zH) => post r5 h6))) ∧ (r1 = 7 → wp_G_topAwaited  h2 (fun (r7 : Int32) (h8 : zH) => ((¬ r7 = 0 → b_G_topStrength_21 post ((-1)) h8) ∧ (r7 = 0 → b_G_topStrength_21 post (0) h8))))))
set_option maxRecDepth 100000 in
set_option maxHeartbeats 4000000 in
theorem w_G_topStrength_21 {l : Launch} {E : zE} {G : (Nat → Prop) → State → Prop} {p : Program} {e : Env} {s : State} {m : MethodId} {args : Array Value} {below : List Frame} {meth : Method} {c : Code} {A : Nat → Prop} {post : Int32 → zH → Prop} (hG : xGG E G) (C : zCx p s m args meth c E G A 2 41 prog_3_method_9_code 1 cn_G) (hr : meth.sig.returnType = (some .int))  (s0 : Int32) (h : zH) (hw : b_G_topStrength_21 post s0 h) : zGo p l e s m args below meth c E A 2 41 1 (zPi post) h 21 [none] [.int s0] := by
  unfold b_G_topStrength_21 at hw
  exact z_iret C hr d_G_topStrength_21 hw
set_option maxRecDepth 100000 in
set_option maxHeartbeats 4000000 in
theorem t_G_topStrength {l : Launch} {E : zE} {G : (Nat → Prop) → State → Prop} (hG : xGG E G) {h : zH} {post : Int32 → zH → Prop} (hw : wp_G_topStrength  h post) : Ct l xX E xcl xN zT G 2 41 y_G_topStrength prog_3_method_9_code 1 (some .int) [.ref (E.2.2.1 31)] h (zPi post) := by
  unfold wp_G_topStrength at hw
  refine Ct.of (by decide) (Nat.le_of_ble_eq_true rfl) ?_
  intro p e s m below meth c A C hr
  refine z_lv (lv2 := [some (.ref (E.2.2.1 31))]) rfl ?_
  refine z_aload_n C (i := 0) d_G_topStrength_0 rfl rfl ?_
  refine z_callVi ⟨xN_ok, hG.1⟩ zT_good C (t_G_topCode hG hw) ol_G_32 (by decide) rfl rfl (by decide) (by decide) pl_G_topCode rfl rfl (Nat.le_of_ble_eq_true rfl) d_G_topStrength_1 (fun r1 h2 hw => ?_)
  refine z_bipush C (v := 7) d_G_topStrength_4 (by decide) ?_
  refine z_icmp_ne C (tgt := 22) d_G_topStrength_6 (by decide) (fun q => ?_) (fun q => ?_)
  · replace hw := hw.1 q
    refine z_aload_n C (i := 0) d_G_topStrength_22 rfl rfl ?_
    refine z_callVi ⟨xN_ok, hG.1⟩ zT_good C (t_G_topCode hG hw) ol_G_32 (by decide) rfl rfl (by decide) (by decide) pl_G_topCode rfl rfl (Nat.le_of_ble_eq_true rfl) d_G_topStrength_23 (fun r3 h4 hw => ?_)
    refine z_callSNi ⟨xN_ok, hG.1⟩ zT_good C (t_R_strengthOf hG hw) wn_R_strengthOf nl_G_43 (by decide) (by decide) pl_R_strengthOf rfl rfl (Nat.le_of_ble_eq_true rfl) d_G_topStrength_26 (fun r5 h6 hw => ?_)
    exact z_iret C hr d_G_topStrength_29 hw
  · replace hw := hw.2 q
    refine z_aload_n C (i := 0) d_G_topStrength_9 rfl rfl ?_
    refine z_callVi ⟨xN_ok, hG.1⟩ zT_good C (t_G_topAwaited hG hw) ol_G_40 (by decide) rfl rfl (by decide) (by decide) pl_G_topAwaited rfl rfl (Nat.le_of_ble_eq_true rfl) d_G_topStrength_10 (fun r7 h8 hw => ?_)
    refine z_if_ne C (tgt := 20) d_G_topStrength_13 (by decide) (fun q => ?_) (fun q => ?_)
    · replace hw := hw.1 q
      refine z_iconst C (v := (-1)) d_G_topStrength_20 (by decide) ?_
      refine z_le (lv2 := [none]) (trivial) ?_
      exact w_G_topStrength_21 hG C hr _ _ hw
    · replace hw := hw.2 q
      refine z_iconst C (v := 0) d_G_topStrength_16 (by decide) ?_
      refine z_goto C (tgt := 21) d_G_topStrength_17 (by decide) ?_
      refine z_le (lv2 := [none]) (trivial) ?_
      exact w_G_topStrength_21 hG C hr _ _ hw
theorem d_R_isDigit_0 : decode prog_1_method_11_code 0 = .ok (.iload_n 0, 1) := by decide +kernel
theorem d_R_isDigit_1 : decode prog_1_method_11_code 1 = .ok (.bipush (48), 2) := by decide +kernel
theorem d_R_isDigit_3 : decode prog_1_method_11_code 3 = .ok (.if_icmp .lt (13), 3) := by decide +kernel
theorem d_R_isDigit_6 : decode prog_1_method_11_code 6 = .ok (.iload_n 0, 1) := by decide +kernel
theorem d_R_isDigit_7 : decode prog_1_method_11_code 7 = .ok (.bipush (57), 2) := by decide +kernel
theorem d_R_isDigit_9 : decode prog_1_method_11_code 9 = .ok (.if_icmp .gt (7), 3) := by decide +kernel
theorem d_R_isDigit_12 : decode prog_1_method_11_code 12 = .ok (.iconst 1, 1) := by decide +kernel
theorem d_R_isDigit_13 : decode prog_1_method_11_code 13 = .ok (.goto (4), 3) := by decide +kernel
theorem d_R_isDigit_16 : decode prog_1_method_11_code 16 = .ok (.iconst 0, 1) := by decide +kernel
theorem d_R_isDigit_17 : decode prog_1_method_11_code 17 = .ok (.ireturn, 1) := by decide +kernel
def b_R_isDigit_17 (post : Int32 → zH → Prop) (s0 : Int32) (h : zH) : Prop := (narrow .boolean (.int s0) = .int s0 ∧ post s0 h)
def b_R_isDigit_16 (post : Int32 → zH → Prop) (h : zH) : Prop := b_R_isDigit_17 post (0) h
def wp_R_isDigit (l0 : Int32) (h : zH) (post : Int32 → zH → Prop) : Prop := ((l0 < 48 → b_R_isDigit_16 post  h) ∧ (¬ l0 < 48 → ((57 < l0 → b_R_isDigit_16 post  h) ∧ (¬ 57 < l0 → b_R_isDigit_17 post (1) h))))
set_option maxRecDepth 100000 in
set_option maxHeartbeats 4000000 in
theorem w_R_isDigit_17 {l : Launch} {E : zE} {G : (Nat → Prop) → State → Prop} {p : Program} {e : Env} {s : State} {m : MethodId} {args : Array Value} {below : List Frame} {meth : Method} {c : Code} {A : Nat → Prop} {post : Int32 → zH → Prop} (hG : xGG E G) (C : zCx p s m args meth c E G A 0 0 prog_1_method_11_code 1 cn_R) (hr : meth.sig.returnType = (some .boolean))  (s0 : Int32) (h : zH) (hw : b_R_isDigit_17 post s0 h) : zGo p l e s m args below meth c E A 0 0 1 (zPi post) h 17 [none] [.int s0] := by
  unfold b_R_isDigit_17 at hw
  exact z_zret C hr hw.1 d_R_isDigit_17 hw.2
set_option maxRecDepth 100000 in
set_option maxHeartbeats 4000000 in
theorem w_R_isDigit_16 {l : Launch} {E : zE} {G : (Nat → Prop) → State → Prop} {p : Program} {e : Env} {s : State} {m : MethodId} {args : Array Value} {below : List Frame} {meth : Method} {c : Code} {A : Nat → Prop} {post : Int32 → zH → Prop} (hG : xGG E G) (C : zCx p s m args meth c E G A 0 0 prog_1_method_11_code 1 cn_R) (hr : meth.sig.returnType = (some .boolean))  (h : zH) (hw : b_R_isDigit_16 post  h) : zGo p l e s m args below meth c E A 0 0 1 (zPi post) h 16 [none] [] := by
  unfold b_R_isDigit_16 at hw
  refine z_iconst C (v := 0) d_R_isDigit_16 (by decide) ?_
  refine z_le (lv2 := [none]) (trivial) ?_
  exact w_R_isDigit_17 hG C hr _ _ hw
set_option maxRecDepth 100000 in
set_option maxHeartbeats 4000000 in
theorem t_R_isDigit {l : Launch} {E : zE} {G : (Nat → Prop) → State → Prop} (hG : xGG E G) {l0 : Int32} {h : zH} {post : Int32 → zH → Prop} (hw : wp_R_isDigit l0 h post) : Ct l xX E xcl xN zT G 0 0 y_R_isDigit prog_1_method_11_code 1 (some .boolean) [.int l0] h (zPi post) := by
  unfold wp_R_isDigit at hw
  refine Ct.of (by decide) (Nat.le_of_ble_eq_true rfl) ?_
  intro p e s m below meth c A C hr
  refine z_lv (lv2 := [some (.int l0)]) rfl ?_
  refine z_iload_n C (i := 0) d_R_isDigit_0 rfl rfl ?_
  refine z_bipush C (v := 48) d_R_isDigit_1 (by decide) ?_
  refine z_icmp_lt C (tgt := 16) d_R_isDigit_3 (by decide) (fun q => ?_) (fun q => ?_)
  · replace hw := hw.1 q
    refine z_le (lv2 := [none]) (trivial) ?_
    exact w_R_isDigit_16 hG C hr  _ hw
  · replace hw := hw.2 q
    refine z_iload_n C (i := 0) d_R_isDigit_6 rfl rfl ?_
    refine z_bipush C (v := 57) d_R_isDigit_7 (by decide) ?_
    refine z_icmp_gt C (tgt := 16) d_R_isDigit_9 (by decide) (fun q => ?_) (fun q => ?_)
    · replace hw := hw.1 q
      refine z_le (lv2 := [none]) (trivial) ?_
      exact w_R_isDigit_16 hG C hr  _ hw
    · replace hw := hw.2 q
      refine z_iconst C (v := 1) d_R_isDigit_12 (by decide) ?_
      refine z_goto C (tgt := 17) d_R_isDigit_13 (by decide) ?_
      refine z_le (lv2 := [none]) (trivial) ?_
      exact w_R_isDigit_17 hG C hr _ _ hw
theorem d_K_readDigits_0 : decode prog_7_method_5_code 0 = .ok (.lconst 0, 1) := by decide +kernel
theorem d_K_readDigits_1 : decode prog_7_method_5_code 1 = .ok (.lstore_n 1, 1) := by decide +kernel
theorem d_K_readDigits_2 : decode prog_7_method_5_code 2 = .ok (.iconst 0, 1) := by decide +kernel
theorem d_K_readDigits_3 : decode prog_7_method_5_code 3 = .ok (.istore_n 3, 1) := by decide +kernel
theorem d_K_readDigits_4 : decode prog_7_method_5_code 4 = .ok (.aload_n 0, 1) := by decide +kernel
theorem d_K_readDigits_5 : decode prog_7_method_5_code 5 = .ok (.getfield 9, 3) := by decide +kernel
theorem d_K_readDigits_8 : decode prog_7_method_5_code 8 = .ok (.aload_n 0, 1) := by decide +kernel
theorem d_K_readDigits_9 : decode prog_7_method_5_code 9 = .ok (.getfield 24, 3) := by decide +kernel
theorem d_K_readDigits_12 : decode prog_7_method_5_code 12 = .ok (.getfield 53, 3) := by decide +kernel
theorem d_K_readDigits_15 : decode prog_7_method_5_code 15 = .ok (.if_icmp .ge (64), 3) := by decide +kernel
theorem d_K_readDigits_18 : decode prog_7_method_5_code 18 = .ok (.aload_n 0, 1) := by decide +kernel
theorem d_K_readDigits_19 : decode prog_7_method_5_code 19 = .ok (.getfield 24, 3) := by decide +kernel
theorem d_K_readDigits_22 : decode prog_7_method_5_code 22 = .ok (.aload_n 0, 1) := by decide +kernel
theorem d_K_readDigits_23 : decode prog_7_method_5_code 23 = .ok (.getfield 9, 3) := by decide +kernel
theorem d_K_readDigits_26 : decode prog_7_method_5_code 26 = .ok (.invokevirtual 31, 3) := by decide +kernel
theorem d_K_readDigits_29 : decode prog_7_method_5_code 29 = .ok (.invokestatic 37, 3) := by decide +kernel
theorem d_K_readDigits_32 : decode prog_7_method_5_code 32 = .ok (.ifCond .eq (47), 3) := by decide +kernel
theorem d_K_readDigits_35 : decode prog_7_method_5_code 35 = .ok (.iinc 3 (1), 3) := by decide +kernel
theorem d_K_readDigits_38 : decode prog_7_method_5_code 38 = .ok (.iload_n 3, 1) := by decide +kernel
theorem d_K_readDigits_39 : decode prog_7_method_5_code 39 = .ok (.bipush (10), 2) := by decide +kernel
theorem d_K_readDigits_41 : decode prog_7_method_5_code 41 = .ok (.if_icmp .gt (25), 3) := by decide +kernel
theorem d_K_readDigits_44 : decode prog_7_method_5_code 44 = .ok (.lload_n 1, 1) := by decide +kernel
theorem d_K_readDigits_45 : decode prog_7_method_5_code 45 = .ok (.ldc2_w 56, 3) := by decide +kernel
theorem d_K_readDigits_48 : decode prog_7_method_5_code 48 = .ok (.lmul, 1) := by decide +kernel
theorem d_K_readDigits_49 : decode prog_7_method_5_code 49 = .ok (.aload_n 0, 1) := by decide +kernel
theorem d_K_readDigits_50 : decode prog_7_method_5_code 50 = .ok (.getfield 24, 3) := by decide +kernel
theorem d_K_readDigits_53 : decode prog_7_method_5_code 53 = .ok (.aload_n 0, 1) := by decide +kernel
theorem d_K_readDigits_54 : decode prog_7_method_5_code 54 = .ok (.getfield 9, 3) := by decide +kernel
theorem d_K_readDigits_57 : decode prog_7_method_5_code 57 = .ok (.invokevirtual 31, 3) := by decide +kernel
theorem d_K_readDigits_60 : decode prog_7_method_5_code 60 = .ok (.bipush (48), 2) := by decide +kernel
theorem d_K_readDigits_62 : decode prog_7_method_5_code 62 = .ok (.isub, 1) := by decide +kernel
theorem d_K_readDigits_63 : decode prog_7_method_5_code 63 = .ok (.i2l, 1) := by decide +kernel
theorem d_K_readDigits_64 : decode prog_7_method_5_code 64 = .ok (.ladd, 1) := by decide +kernel
theorem d_K_readDigits_65 : decode prog_7_method_5_code 65 = .ok (.lstore_n 1, 1) := by decide +kernel
theorem d_K_readDigits_66 : decode prog_7_method_5_code 66 = .ok (.aload_n 0, 1) := by decide +kernel
theorem d_K_readDigits_67 : decode prog_7_method_5_code 67 = .ok (.dup, 1) := by decide +kernel
theorem d_K_readDigits_68 : decode prog_7_method_5_code 68 = .ok (.getfield 9, 3) := by decide +kernel
theorem d_K_readDigits_71 : decode prog_7_method_5_code 71 = .ok (.iconst 1, 1) := by decide +kernel
theorem d_K_readDigits_72 : decode prog_7_method_5_code 72 = .ok (.iadd, 1) := by decide +kernel
theorem d_K_readDigits_73 : decode prog_7_method_5_code 73 = .ok (.putfield 9, 3) := by decide +kernel
theorem d_K_readDigits_76 : decode prog_7_method_5_code 76 = .ok (.goto (-72), 3) := by decide +kernel
theorem d_K_readDigits_79 : decode prog_7_method_5_code 79 = .ok (.iload_n 3, 1) := by decide +kernel
theorem d_K_readDigits_80 : decode prog_7_method_5_code 80 = .ok (.bipush (10), 2) := by decide +kernel
theorem d_K_readDigits_82 : decode prog_7_method_5_code 82 = .ok (.if_icmp .gt (15), 3) := by decide +kernel
theorem d_K_readDigits_85 : decode prog_7_method_5_code 85 = .ok (.lload_n 1, 1) := by decide +kernel
theorem d_K_readDigits_86 : decode prog_7_method_5_code 86 = .ok (.ldc2_w 58, 3) := by decide +kernel
theorem d_K_readDigits_89 : decode prog_7_method_5_code 89 = .ok (.lcmp, 1) := by decide +kernel
theorem d_K_readDigits_90 : decode prog_7_method_5_code 90 = .ok (.ifCond .gt (7), 3) := by decide +kernel
theorem d_K_readDigits_93 : decode prog_7_method_5_code 93 = .ok (.iconst 1, 1) := by decide +kernel
theorem d_K_readDigits_94 : decode prog_7_method_5_code 94 = .ok (.goto (4), 3) := by decide +kernel
theorem d_K_readDigits_97 : decode prog_7_method_5_code 97 = .ok (.iconst 0, 1) := by decide +kernel
theorem d_K_readDigits_98 : decode prog_7_method_5_code 98 = .ok (.istore 4, 2) := by decide +kernel
theorem d_K_readDigits_100 : decode prog_7_method_5_code 100 = .ok (.aload_n 0, 1) := by decide +kernel
theorem d_K_readDigits_101 : decode prog_7_method_5_code 101 = .ok (.iload 4, 2) := by decide +kernel
theorem d_K_readDigits_103 : decode prog_7_method_5_code 103 = .ok (.ifCond .eq (7), 3) := by decide +kernel
theorem d_K_readDigits_106 : decode prog_7_method_5_code 106 = .ok (.iconst 2, 1) := by decide +kernel
theorem d_K_readDigits_107 : decode prog_7_method_5_code 107 = .ok (.goto (4), 3) := by decide +kernel
theorem d_K_readDigits_110 : decode prog_7_method_5_code 110 = .ok (.iconst 0, 1) := by decide +kernel
theorem d_K_readDigits_111 : decode prog_7_method_5_code 111 = .ok (.putfield 15, 3) := by decide +kernel
theorem d_K_readDigits_114 : decode prog_7_method_5_code 114 = .ok (.aload_n 0, 1) := by decide +kernel
theorem d_K_readDigits_115 : decode prog_7_method_5_code 115 = .ok (.iload 4, 2) := by decide +kernel
theorem d_K_readDigits_117 : decode prog_7_method_5_code 117 = .ok (.ifCond .eq (8), 3) := by decide +kernel
theorem d_K_readDigits_120 : decode prog_7_method_5_code 120 = .ok (.lload_n 1, 1) := by decide +kernel
theorem d_K_readDigits_121 : decode prog_7_method_5_code 121 = .ok (.l2i, 1) := by decide +kernel
theorem d_K_readDigits_122 : decode prog_7_method_5_code 122 = .ok (.goto (4), 3) := by decide +kernel
theorem d_K_readDigits_125 : decode prog_7_method_5_code 125 = .ok (.iconst 0, 1) := by decide +kernel
theorem d_K_readDigits_126 : decode prog_7_method_5_code 126 = .ok (.putfield 21, 3) := by decide +kernel
theorem d_K_readDigits_129 : decode prog_7_method_5_code 129 = .ok (.return_, 1) := by decide +kernel
def b_K_readDigits_66 (post : zH → Prop) (rc : Int64 → Int32 → zH → Prop) (l1 : Int64) (l3 : Int32) (h : zH) : Prop := (∀ h1 : zH, h1 = zi h 30 1 ((h.1 30 1) + 1) → rc (l1) (l3) h1)
def b_K_readDigits_126 (post : zH → Prop) (s0 : Int32) (h : zH) : Prop := (∀ h2 : zH, h2 = zi h 30 4 s0 → post h2)
def b_K_readDigits_111 (post : zH → Prop) (l1 : Int64) (l4 : Int32) (s0 : Int32) (h : zH) : Prop := (∀ h3 : zH, h3 = zi h 30 2 s0 → ((l4 = 0 → b_K_readDigits_126 post (0) h3) ∧ (¬ l4 = 0 → b_K_readDigits_126 post ((l1 : Int64).toInt32) h3)))
def b_K_readDigits_98 (post : zH → Prop) (l1 : Int64) (s0 : Int32) (h : zH) : Prop := ((s0 = 0 → b_K_readDigits_111 post (l1) (s0) (0) h) ∧ (¬ s0 = 0 → b_K_readDigits_111 post (l1) (s0) (2) h))
def b_K_readDigits_97 (post : zH → Prop) (l1 : Int64) (h : zH) : Prop := b_K_readDigits_98 post (l1) (0) h
def b_K_readDigits_79 (post : zH → Prop) (l1 : Int64) (l3 : Int32) (h : zH) : Prop := ((10 < l3 → b_K_readDigits_97 post (l1) h) ∧ (¬ 10 < l3 → ((0 < (lg_cmp l1 2000000000) → b_K_readDigits_97 post (l1) h) ∧ (¬ 0 < (lg_cmp l1 2000000000) → b_K_readDigits_98 post (l1) (1) h))))
def b_K_readDigits_4 (post : zH → Prop) : Nat → Int64 → Int32 → zH → Prop
  | 0, _, _, _ => False
  | n + 1, l1, l3, h => (fun rc : Int64 → Int32 → zH → Prop => (((h.1 5 1) ≤ (h.1 30 1) → b_K_readDigits_79 post (l1) (l3) h) ∧ (¬ (h.1 5 1) ≤ (h.1 30 1) → wp_A_signAt ((h.1 30 1)) h (fun (r4 : Int32) (h5 : zH) => wp_R_isDigit (r4) h5 (fun (r6 : Int32) (h7 : zH) => ((r6 = 0 → b_K_readDigits_79 post (l1) (l3) h7) ∧ (¬ r6 = 0 → ((10 < (l3 + 1) → b_K_readDigits_66 post rc (l1) ((l3 + 1)) h7) ∧ (¬ 10 < (l3 + 1) → wp_A_signAt ((h7.1 30 1)) h7 (fun (r8 : Int32) (h9 : zH) => b_K_readDigits_66 post rc (((l1 * 10) + ((r8 - 48) : Int32).toInt64)) ((l3 + 1)) h9)))))))))) (b_K_readDigits_4 post n)
def wp_K_readDigits (h : zH) (post : zH → Prop) : Prop := (∃ n : Nat, b_K_readDigits_4 post n (0) (0) h)
set_option maxRecDepth 100000 in
set_option maxHeartbeats 4000000 in
theorem w_K_readDigits_66 {l : Launch} {E : zE} {G : (Nat → Prop) → State → Prop} {p : Program} {e : Env} {s : State} {m : MethodId} {args : Array Value} {below : List Frame} {meth : Method} {c : Code} {A : Nat → Prop} {post : zH → Prop} (hG : xGG E G) (C : zCx p s m args meth c E G A 2 42 prog_7_method_5_code 5 cn_K) (hr : meth.sig.returnType = none) {rc : Int64 → Int32 → zH → Prop} (hrc : ∀ (l1 : Int64) (l3 : Int32) (h : zH), rc l1 l3 h → zGo p l e s m args below meth c E A 2 42 5 (zPv post) h 4 [some (.ref (E.2.2.1 30)), some (.long l1), none, some (.int l3), none] []) (l1 : Int64) (l3 : Int32) (h : zH) (hw : b_K_readDigits_66 post rc l1 l3 h) : zGo p l e s m args below meth c E A 2 42 5 (zPv post) h 66 [some (.ref (E.2.2.1 30)), some (.long l1), none, some (.int l3), none] [] := by
  unfold b_K_readDigits_66 at hw
  refine z_aload_n C (i := 0) d_K_readDigits_66 rfl rfl ?_
  refine z_dup C d_K_readDigits_67 rfl ?_
  refine z_getI C (ci := 5) (j := 1) (F := cf_K) (by decide) rfl rfl in_K (by decide) fl_K_9 rfl d_K_readDigits_68 ?_
  refine z_iconst C (v := 1) d_K_readDigits_71 (by decide) ?_
  refine z_iadd C d_K_readDigits_72 ?_
  refine z_putI C (ci := 5) (j := 1) (F := cf_K) ct_K (by decide) rfl rfl in_K ty_K nm_K (by decide) fl_K_9 rfl (by decide +kernel) rfl d_K_readDigits_73 (fun h1 eh1 => ?_)
  replace hw := hw h1 eh1
  refine z_goto C (tgt := 4) d_K_readDigits_76 (by decide) ?_
  refine z_le (lv2 := [some (.ref (E.2.2.1 30)), some (.long l1), none, some (.int l3), none]) (⟨rfl, ⟨rfl, ⟨rfl, trivial⟩⟩⟩) ?_
  exact hrc _ _ _ hw
set_option maxRecDepth 100000 in
set_option maxHeartbeats 4000000 in
theorem w_K_readDigits_126 {l : Launch} {E : zE} {G : (Nat → Prop) → State → Prop} {p : Program} {e : Env} {s : State} {m : MethodId} {args : Array Value} {below : List Frame} {meth : Method} {c : Code} {A : Nat → Prop} {post : zH → Prop} (hG : xGG E G) (C : zCx p s m args meth c E G A 2 42 prog_7_method_5_code 5 cn_K) (hr : meth.sig.returnType = none)  (s0 : Int32) (h : zH) (hw : b_K_readDigits_126 post s0 h) : zGo p l e s m args below meth c E A 2 42 5 (zPv post) h 126 [none, none, none, none, none] [.int s0, .ref (E.2.2.1 30)] := by
  unfold b_K_readDigits_126 at hw
  refine z_putI C (ci := 5) (j := 4) (F := cf_K) ct_K (by decide) rfl rfl in_K ty_K nm_K (by decide) fl_K_21 rfl (by decide +kernel) rfl d_K_readDigits_126 (fun h2 eh2 => ?_)
  replace hw := hw h2 eh2
  exact z_vret C hr d_K_readDigits_129 hw
set_option maxRecDepth 100000 in
set_option maxHeartbeats 4000000 in
theorem w_K_readDigits_111 {l : Launch} {E : zE} {G : (Nat → Prop) → State → Prop} {p : Program} {e : Env} {s : State} {m : MethodId} {args : Array Value} {below : List Frame} {meth : Method} {c : Code} {A : Nat → Prop} {post : zH → Prop} (hG : xGG E G) (C : zCx p s m args meth c E G A 2 42 prog_7_method_5_code 5 cn_K) (hr : meth.sig.returnType = none)  (l1 : Int64) (l4 : Int32) (s0 : Int32) (h : zH) (hw : b_K_readDigits_111 post l1 l4 s0 h) : zGo p l e s m args below meth c E A 2 42 5 (zPv post) h 111 [some (.ref (E.2.2.1 30)), some (.long l1), none, none, some (.int l4)] [.int s0, .ref (E.2.2.1 30)] := by
  unfold b_K_readDigits_111 at hw
  refine z_putI C (ci := 5) (j := 2) (F := cf_K) ct_K (by decide) rfl rfl in_K ty_K nm_K (by decide) fl_K_15 rfl (by decide +kernel) rfl d_K_readDigits_111 (fun h3 eh3 => ?_)
  replace hw := hw h3 eh3
  refine z_aload_n C (i := 0) d_K_readDigits_114 rfl rfl ?_
  refine z_iload C d_K_readDigits_115 rfl ?_
  refine z_if_eq C (tgt := 125) d_K_readDigits_117 (by decide) (fun q => ?_) (fun q => ?_)
  · replace hw := hw.1 q
    refine z_iconst C (v := 0) d_K_readDigits_125 (by decide) ?_
    refine z_le (lv2 := [none, none, none, none, none]) (trivial) ?_
    exact w_K_readDigits_126 hG C hr _ _ hw
  · replace hw := hw.2 q
    refine z_lload_n C (i := 1) d_K_readDigits_120 rfl rfl ?_
    refine z_l2i C d_K_readDigits_121 ?_
    refine z_goto C (tgt := 126) d_K_readDigits_122 (by decide) ?_
    refine z_le (lv2 := [none, none, none, none, none]) (trivial) ?_
    exact w_K_readDigits_126 hG C hr _ _ hw
set_option maxRecDepth 100000 in
set_option maxHeartbeats 4000000 in
theorem w_K_readDigits_98 {l : Launch} {E : zE} {G : (Nat → Prop) → State → Prop} {p : Program} {e : Env} {s : State} {m : MethodId} {args : Array Value} {below : List Frame} {meth : Method} {c : Code} {A : Nat → Prop} {post : zH → Prop} (hG : xGG E G) (C : zCx p s m args meth c E G A 2 42 prog_7_method_5_code 5 cn_K) (hr : meth.sig.returnType = none)  (l1 : Int64) (s0 : Int32) (h : zH) (hw : b_K_readDigits_98 post l1 s0 h) : zGo p l e s m args below meth c E A 2 42 5 (zPv post) h 98 [some (.ref (E.2.2.1 30)), some (.long l1), none, none, none] [.int s0] := by
  unfold b_K_readDigits_98 at hw
  refine z_istore C d_K_readDigits_98 (by decide) rfl ?_
  refine z_aload_n C (i := 0) d_K_readDigits_100 rfl rfl ?_
  refine z_iload C d_K_readDigits_101 rfl ?_
  refine z_if_eq C (tgt := 110) d_K_readDigits_103 (by decide) (fun q => ?_) (fun q => ?_)
  · replace hw := hw.1 q
    refine z_iconst C (v := 0) d_K_readDigits_110 (by decide) ?_
    refine z_le (lv2 := [some (.ref (E.2.2.1 30)), some (.long l1), none, none, some (.int s0)]) (⟨rfl, ⟨rfl, ⟨rfl, trivial⟩⟩⟩) ?_
    exact w_K_readDigits_111 hG C hr _ _ _ _ hw
  · replace hw := hw.2 q
    refine z_iconst C (v := 2) d_K_readDigits_106 (by decide) ?_
    refine z_goto C (tgt := 111) d_K_readDigits_107 (by decide) ?_
    refine z_le (lv2 := [some (.ref (E.2.2.1 30)), some (.long l1), none, none, some (.int s0)]) (⟨rfl, ⟨rfl, ⟨rfl, trivial⟩⟩⟩) ?_
    exact w_K_readDigits_111 hG C hr _ _ _ _ hw
set_option maxRecDepth 100000 in
set_option maxHeartbeats 4000000 in
theorem w_K_readDigits_97 {l : Launch} {E : zE} {G : (Nat → Prop) → State → Prop} {p : Program} {e : Env} {s : State} {m : MethodId} {args : Array Value} {below : List Frame} {meth : Method} {c : Code} {A : Nat → Prop} {post : zH → Prop} (hG : xGG E G) (C : zCx p s m args meth c E G A 2 42 prog_7_method_5_code 5 cn_K) (hr : meth.sig.returnType = none)  (l1 : Int64) (h : zH) (hw : b_K_readDigits_97 post l1 h) : zGo p l e s m args below meth c E A 2 42 5 (zPv post) h 97 [some (.ref (E.2.2.1 30)), some (.long l1), none, none, none] [] := by
  unfold b_K_readDigits_97 at hw
  refine z_iconst C (v := 0) d_K_readDigits_97 (by decide) ?_
  refine z_le (lv2 := [some (.ref (E.2.2.1 30)), some (.long l1), none, none, none]) (⟨rfl, ⟨rfl, trivial⟩⟩) ?_
  exact w_K_readDigits_98 hG C hr _ _ _ hw
set_option maxRecDepth 100000 in
set_option maxHeartbeats 4000000 in
theorem w_K_readDigits_79 {l : Launch} {E : zE} {G : (Nat → Prop) → State → Prop} {p : Program} {e : Env} {s : State} {m : MethodId} {args : Array Value} {below : List Frame} {meth : Method} {c : Code} {A : Nat → Prop} {post : zH → Prop} (hG : xGG E G) (C : zCx p s m args meth c E G A 2 42 prog_7_method_5_code 5 cn_K) (hr : meth.sig.returnType = none)  (l1 : Int64) (l3 : Int32) (h : zH) (hw : b_K_readDigits_79 post l1 l3 h) : zGo p l e s m args below meth c E A 2 42 5 (zPv post) h 79 [some (.ref (E.2.2.1 30)), some (.long l1), none, some (.int l3), none] [] := by
  unfold b_K_readDigits_79 at hw
  refine z_iload_n C (i := 3) d_K_readDigits_79 rfl rfl ?_
  refine z_bipush C (v := 10) d_K_readDigits_80 (by decide) ?_
  refine z_icmp_gt C (tgt := 97) d_K_readDigits_82 (by decide) (fun q => ?_) (fun q => ?_)
  · replace hw := hw.1 q
    refine z_le (lv2 := [some (.ref (E.2.2.1 30)), some (.long l1), none, none, none]) (⟨rfl, ⟨rfl, trivial⟩⟩) ?_
    exact w_K_readDigits_97 hG C hr _ _ hw
  · replace hw := hw.2 q
    refine z_lload_n C (i := 1) d_K_readDigits_85 rfl rfl ?_
    refine z_ldc2 C (v := 2000000000) kl_K_58 d_K_readDigits_86 ?_
    refine z_lcmp C d_K_readDigits_89 ?_
    refine z_if_gt C (tgt := 97) d_K_readDigits_90 (by decide) (fun q => ?_) (fun q => ?_)
    · replace hw := hw.1 q
      refine z_le (lv2 := [some (.ref (E.2.2.1 30)), some (.long l1), none, none, none]) (⟨rfl, ⟨rfl, trivial⟩⟩) ?_
      exact w_K_readDigits_97 hG C hr _ _ hw
    · replace hw := hw.2 q
      refine z_iconst C (v := 1) d_K_readDigits_93 (by decide) ?_
      refine z_goto C (tgt := 98) d_K_readDigits_94 (by decide) ?_
      refine z_le (lv2 := [some (.ref (E.2.2.1 30)), some (.long l1), none, none, none]) (⟨rfl, ⟨rfl, trivial⟩⟩) ?_
      exact w_K_readDigits_98 hG C hr _ _ _ hw
set_option maxRecDepth 100000 in
set_option maxHeartbeats 4000000 in
theorem w_K_readDigits_4 {l : Launch} {E : zE} {G : (Nat → Prop) → State → Prop} {p : Program} {e : Env} {s : State} {m : MethodId} {args : Array Value} {below : List Frame} {meth : Method} {c : Code} {A : Nat → Prop} {post : zH → Prop} (hG : xGG E G) (C : zCx p s m args meth c E G A 2 42 prog_7_method_5_code 5 cn_K) (hr : meth.sig.returnType = none) : ∀ (n : Nat) (l1 : Int64) (l3 : Int32) (h : zH), b_K_readDigits_4 post n l1 l3 h → zGo p l e s m args below meth c E A 2 42 5 (zPv post) h 4 [some (.ref (E.2.2.1 30)), some (.long l1), none, some (.int l3), none] [] := by
  intro n
  induction n with
  | zero => intro l1 l3 h hw; exact False.elim hw
  | succ n hrc =>
    intro l1 l3 h hw
    unfold b_K_readDigits_4 at hw
    refine z_aload_n C (i := 0) d_K_readDigits_4 rfl rfl ?_
    refine z_getI C (ci := 5) (j := 1) (F := cf_K) (by decide) rfl rfl in_K (by decide) fl_K_9 rfl d_K_readDigits_5 ?_
    refine z_aload_n C (i := 0) d_K_readDigits_8 rfl rfl ?_
    refine z_getS C (ci := 5) (j := 0) (F := cf_K) (by decide) rfl rfl in_K (by decide) fl_K_24 rfl d_K_readDigits_9 ?_
    refine z_getIN C (ci := 2) (j := 1) (F := cf_A) (by decide) rfl rfl in_A (by decide) fn_K_53 rfl d_K_readDigits_12 ?_
    refine z_icmp_ge C (tgt := 79) d_K_readDigits_15 (by decide) (fun q => ?_) (fun q => ?_)
    · replace hw := hw.1 q
      refine z_le (lv2 := [some (.ref (E.2.2.1 30)), some (.long l1), none, some (.int l3), none]) (⟨rfl, ⟨rfl, ⟨rfl, trivial⟩⟩⟩) ?_
      exact w_K_readDigits_79 hG C hr _ _ _ hw
    · replace hw := hw.2 q
      refine z_aload_n C (i := 0) d_K_readDigits_18 rfl rfl ?_
      refine z_getS C (ci := 5) (j := 0) (F := cf_K) (by decide) rfl rfl in_K (by decide) fl_K_24 rfl d_K_readDigits_19 ?_
      refine z_aload_n C (i := 0) d_K_readDigits_22 rfl rfl ?_
      refine z_getI C (ci := 5) (j := 1) (F := cf_K) (by decide) rfl rfl in_K (by decide) fl_K_9 rfl d_K_readDigits_23 ?_
      refine z_callVNi ⟨xN_ok, hG.1⟩ zT_good C (t_A_signAt hG hw) wn_A_signAt nl_K_31 (by decide) rfl rfl (by decide) (by decide) pl_A_signAt rfl rfl (Nat.le_of_ble_eq_true rfl) d_K_readDigits_26 (fun r4 h5 hw => ?_)
      refine z_callSNi ⟨xN_ok, hG.1⟩ zT_good C (t_R_isDigit hG hw) wn_R_isDigit nl_K_37 (by decide) (by decide) pl_R_isDigit rfl rfl (Nat.le_of_ble_eq_true rfl) d_K_readDigits_29 (fun r6 h7 hw => ?_)
      refine z_if_eq C (tgt := 79) d_K_readDigits_32 (by decide) (fun q => ?_) (fun q => ?_)
      · replace hw := hw.1 q
        refine z_le (lv2 := [some (.ref (E.2.2.1 30)), some (.long l1), none, some (.int l3), none]) (⟨rfl, ⟨rfl, ⟨rfl, trivial⟩⟩⟩) ?_
        exact w_K_readDigits_79 hG C hr _ _ _ hw
      · replace hw := hw.2 q
        refine z_iinc C (v := l3 + 1) d_K_readDigits_35 rfl rfl (by decide) rfl ?_
        refine z_iload_n C (i := 3) d_K_readDigits_38 rfl rfl ?_
        refine z_bipush C (v := 10) d_K_readDigits_39 (by decide) ?_
        refine z_icmp_gt C (tgt := 66) d_K_readDigits_41 (by decide) (fun q => ?_) (fun q => ?_)
        · replace hw := hw.1 q
          refine z_le (lv2 := [some (.ref (E.2.2.1 30)), some (.long l1), none, some (.int (l3 + 1)), none]) (⟨rfl, ⟨rfl, ⟨rfl, trivial⟩⟩⟩) ?_
          exact w_K_readDigits_66 hG C hr hrc _ _ _ hw
        · replace hw := hw.2 q
          refine z_lload_n C (i := 1) d_K_readDigits_44 rfl rfl ?_
          refine z_ldc2 C (v := 10) kl_K_56 d_K_readDigits_45 ?_
          refine z_lmul C d_K_readDigits_48 ?_
          refine z_aload_n C (i := 0) d_K_readDigits_49 rfl rfl ?_
          refine z_getS C (ci := 5) (j := 0) (F := cf_K) (by decide) rfl rfl in_K (by decide) fl_K_24 rfl d_K_readDigits_50 ?_
          refine z_aload_n C (i := 0) d_K_readDigits_53 rfl rfl ?_
          refine z_getI C (ci := 5) (j := 1) (F := cf_K) (by decide) rfl rfl in_K (by decide) fl_K_9 rfl d_K_readDigits_54 ?_
          refine z_callVNi ⟨xN_ok, hG.1⟩ zT_good C (t_A_signAt hG hw) wn_A_signAt nl_K_31 (by decide) rfl rfl (by decide) (by decide) pl_A_signAt rfl rfl (Nat.le_of_ble_eq_true rfl) d_K_readDigits_57 (fun r8 h9 hw => ?_)
          refine z_bipush C (v := 48) d_K_readDigits_60 (by decide) ?_
          refine z_isub C d_K_readDigits_62 ?_
          refine z_i2l C d_K_readDigits_63 ?_
          refine z_ladd C d_K_readDigits_64 ?_
          refine z_lstore_n C (i := 1) d_K_readDigits_65 rfl (by decide) rfl ?_
          refine z_le (lv2 := [some (.ref (E.2.2.1 30)), some (.long ((l1 * 10) + ((r8 - 48) : Int32).toInt64)), none, some (.int (l3 + 1)), none]) (⟨rfl, ⟨rfl, ⟨rfl, trivial⟩⟩⟩) ?_
          exact w_K_readDigits_66 hG C hr hrc _ _ _ hw
set_option maxRecDepth 100000 in
set_option maxHeartbeats 4000000 in
theorem t_K_readDigits {l : Launch} {E : zE} {G : (Nat → Prop) → State → Prop} (hG : xGG E G) {h : zH} {post : zH → Prop} (hw : wp_K_readDigits  h post) : Ct l xX E xcl xN zT G 2 42 y_K_readDigits prog_7_method_5_code 5 none [.ref (E.2.2.1 30)] h (zPv post) := by
  unfold wp_K_readDigits at hw
  refine Ct.of (by decide) (Nat.le_of_ble_eq_true rfl) ?_
  intro p e s m below meth c A C hr
  refine z_lv (lv2 := [some (.ref (E.2.2.1 30)), none, none, none, none]) rfl ?_
  refine z_lconst C (v := 0) d_K_readDigits_0 (by decide) ?_
  refine z_lstore_n C (i := 1) d_K_readDigits_1 rfl (by decide) rfl ?_
  refine z_iconst C (v := 0) d_K_readDigits_2 (by decide) ?_
  refine z_istore_n C (i := 3) d_K_readDigits_3 rfl (by decide) rfl ?_
  refine z_le (lv2 := [some (.ref (E.2.2.1 30)), some (.long 0), none, some (.int 0), none]) (⟨rfl, ⟨rfl, ⟨rfl, trivial⟩⟩⟩) ?_
  obtain ⟨n, hw⟩ := hw
  exact w_K_readDigits_4 hG C hr n _ _ _ hw
theorem d_K_doubleMark_0 : decode prog_7_method_9_code 0 = .ok (.iload_n 0, 1) := by decide +kernel
theorem d_K_doubleMark_1 : decode prog_7_method_9_code 1 = .ok (.bipush (38), 2) := by decide +kernel
theorem d_K_doubleMark_3 : decode prog_7_method_9_code 3 = .ok (.if_icmp .ne (12), 3) := by decide +kernel
theorem d_K_doubleMark_6 : decode prog_7_method_9_code 6 = .ok (.iload_n 1, 1) := by decide +kernel
theorem d_K_doubleMark_7 : decode prog_7_method_9_code 7 = .ok (.bipush (38), 2) := by decide +kernel
theorem d_K_doubleMark_9 : decode prog_7_method_9_code 9 = .ok (.if_icmp .ne (6), 3) := by decide +kernel
theorem d_K_doubleMark_12 : decode prog_7_method_9_code 12 = .ok (.bipush (21), 2) := by decide +kernel
theorem d_K_doubleMark_14 : decode prog_7_method_9_code 14 = .ok (.ireturn, 1) := by decide +kernel
theorem d_K_doubleMark_15 : decode prog_7_method_9_code 15 = .ok (.iload_n 0, 1) := by decide +kernel
theorem d_K_doubleMark_16 : decode prog_7_method_9_code 16 = .ok (.bipush (124), 2) := by decide +kernel
theorem d_K_doubleMark_18 : decode prog_7_method_9_code 18 = .ok (.if_icmp .ne (12), 3) := by decide +kernel
theorem d_K_doubleMark_21 : decode prog_7_method_9_code 21 = .ok (.iload_n 1, 1) := by decide +kernel
theorem d_K_doubleMark_22 : decode prog_7_method_9_code 22 = .ok (.bipush (124), 2) := by decide +kernel
theorem d_K_doubleMark_24 : decode prog_7_method_9_code 24 = .ok (.if_icmp .ne (6), 3) := by decide +kernel
theorem d_K_doubleMark_27 : decode prog_7_method_9_code 27 = .ok (.bipush (22), 2) := by decide +kernel
theorem d_K_doubleMark_29 : decode prog_7_method_9_code 29 = .ok (.ireturn, 1) := by decide +kernel
theorem d_K_doubleMark_30 : decode prog_7_method_9_code 30 = .ok (.iload_n 1, 1) := by decide +kernel
theorem d_K_doubleMark_31 : decode prog_7_method_9_code 31 = .ok (.bipush (61), 2) := by decide +kernel
theorem d_K_doubleMark_33 : decode prog_7_method_9_code 33 = .ok (.if_icmp .eq (5), 3) := by decide +kernel
theorem d_K_doubleMark_36 : decode prog_7_method_9_code 36 = .ok (.iconst 0, 1) := by decide +kernel
theorem d_K_doubleMark_37 : decode prog_7_method_9_code 37 = .ok (.ireturn, 1) := by decide +kernel
theorem d_K_doubleMark_38 : decode prog_7_method_9_code 38 = .ok (.iload_n 0, 1) := by decide +kernel
theorem d_K_doubleMark_39 : decode prog_7_method_9_code 39 = .ok (.lookupswitch (53) #[(33, 50), (60, 41), (61, 47), (62, 44)], 41) := by decide +kernel
theorem d_K_doubleMark_80 : decode prog_7_method_9_code 80 = .ok (.bipush (15), 2) := by decide +kernel
theorem d_K_doubleMark_82 : decode prog_7_method_9_code 82 = .ok (.ireturn, 1) := by decide +kernel
theorem d_K_doubleMark_83 : decode prog_7_method_9_code 83 = .ok (.bipush (17), 2) := by decide +kernel
theorem d_K_doubleMark_85 : decode prog_7_method_9_code 85 = .ok (.ireturn, 1) := by decide +kernel
theorem d_K_doubleMark_86 : decode prog_7_method_9_code 86 = .ok (.bipush (18), 2) := by decide +kernel
theorem d_K_doubleMark_88 : decode prog_7_method_9_code 88 = .ok (.ireturn, 1) := by decide +kernel
theorem d_K_doubleMark_89 : decode prog_7_method_9_code 89 = .ok (.bipush (19), 2) := by decide +kernel
theorem d_K_doubleMark_91 : decode prog_7_method_9_code 91 = .ok (.ireturn, 1) := by decide +kernel
theorem d_K_doubleMark_92 : decode prog_7_method_9_code 92 = .ok (.iconst 0, 1) := by decide +kernel
theorem d_K_doubleMark_93 : decode prog_7_method_9_code 93 = .ok (.ireturn, 1) := by decide +kernel
def b_K_doubleMark_30 (post : Int32 → zH → Prop) (l0 : Int32) (l1 : Int32) (h : zH) : Prop := ((l1 = 61 → ((l0 = 33 → post 19 h) ∧ (¬ l0 = 33 → ((l0 = 60 → post 15 h) ∧ (¬ l0 = 60 → ((l0 = 61 → post 18 h) ∧ (¬ l0 = 61 → ((l0 = 62 → post 17 h) ∧ (¬ l0 = 62 → post 0 h))))))))) ∧ (¬ l1 = 61 → post 0 h))
def b_K_doubleMark_15 (post : Int32 → zH → Prop) (l0 : Int32) (l1 : Int32) (h : zH) : Prop := ((¬ l0 = 124 → b_K_doubleMark_30 post (l0) (l1) h) ∧ (l0 = 124 → ((¬ l1 = 124 → b_K_doubleMark_30 post (l0) (l1) h) ∧ (l1 = 124 → post 22 h))))
def wp_K_doubleMark (l0 : Int32) (l1 : Int32) (h : zH) (post : Int32 → zH → Prop) : Prop := ((¬ l0 = 38 → b_K_doubleMark_15 post (l0) (l1) h) ∧ (l0 = 38 → ((¬ l1 = 38 → b_K_doubleMark_15 post (l0) (l1) h) ∧ (l1 = 38 → post 21 h))))
set_option maxRecDepth 100000 in
set_option maxHeartbeats 4000000 in
theorem w_K_doubleMark_30 {l : Launch} {E : zE} {G : (Nat → Prop) → State → Prop} {p : Program} {e : Env} {s : State} {m : MethodId} {args : Array Value} {below : List Frame} {meth : Method} {c : Code} {A : Nat → Prop} {post : Int32 → zH → Prop} (hG : xGG E G) (C : zCx p s m args meth c E G A 0 0 prog_7_method_9_code 2 cn_K) (hr : meth.sig.returnType = (some .int))  (l0 : Int32) (l1 : Int32) (h : zH) (hw : b_K_doubleMark_30 post l0 l1 h) : zGo p l e s m args below meth c E A 0 0 2 (zPi post) h 30 [some (.int l0), some (.int l1)] [] := by
  unfold b_K_doubleMark_30 at hw
  refine z_iload_n C (i := 1) d_K_doubleMark_30 rfl rfl ?_
  refine z_bipush C (v := 61) d_K_doubleMark_31 (by decide) ?_
  refine z_icmp_eq C (tgt := 38) d_K_doubleMark_33 (by decide) (fun q => ?_) (fun q => ?_)
  · replace hw := hw.1 q
    refine z_iload_n C (i := 0) d_K_doubleMark_38 rfl rfl ?_
    refine z_lcase C (off := 50) (tgt := 89) (33 : Int32) d_K_doubleMark_39 (by decide) (by decide) (by decide) (fun q0 => ?_) (fun q0 => ?_)
    · replace hw := hw.1 q0
      refine z_bipush C (v := 19) d_K_doubleMark_89 (by decide) ?_
      exact z_iret C hr d_K_doubleMark_91 hw
    replace hw := hw.2 q0
    refine z_lcase C (off := 41) (tgt := 80) (60 : Int32) d_K_doubleMark_39 (by decide) (by decide) (by decide) (fun q1 => ?_) (fun q1 => ?_)
    · replace hw := hw.1 q1
      refine z_bipush C (v := 15) d_K_doubleMark_80 (by decide) ?_
      exact z_iret C hr d_K_doubleMark_82 hw
    replace hw := hw.2 q1
    refine z_lcase C (off := 47) (tgt := 86) (61 : Int32) d_K_doubleMark_39 (by decide) (by decide) (by decide) (fun q2 => ?_) (fun q2 => ?_)
    · replace hw := hw.1 q2
      refine z_bipush C (v := 18) d_K_doubleMark_86 (by decide) ?_
      exact z_iret C hr d_K_doubleMark_88 hw
    replace hw := hw.2 q2
    refine z_lcase C (off := 44) (tgt := 83) (62 : Int32) d_K_doubleMark_39 (by decide) (by decide) (by decide) (fun q3 => ?_) (fun q3 => ?_)
    · replace hw := hw.1 q3
      refine z_bipush C (v := 17) d_K_doubleMark_83 (by decide) ?_
      exact z_iret C hr d_K_doubleMark_85 hw
    replace hw := hw.2 q3
    refine z_lookup C (off := 53) (tgt := 92) d_K_doubleMark_39 (by decide) (by show Op.lookupswitch.offset [(33, 50), (60, 41), (61, 47), (62, 44)] (53) _ = (53); rw [lv_osw q0 (a := 33) rfl, lv_osw q1 (a := 60) rfl, lv_osw q2 (a := 61) rfl, lv_osw q3 (a := 62) rfl]; rfl) (by decide) ?_
    refine z_iconst C (v := 0) d_K_doubleMark_92 (by decide) ?_
    exact z_iret C hr d_K_doubleMark_93 hw
  · replace hw := hw.2 q
    refine z_iconst C (v := 0) d_K_doubleMark_36 (by decide) ?_
    exact z_iret C hr d_K_doubleMark_37 hw
set_option maxRecDepth 100000 in
set_option maxHeartbeats 4000000 in
theorem w_K_doubleMark_15 {l : Launch} {E : zE} {G : (Nat → Prop) → State → Prop} {p : Program} {e : Env} {s : State} {m : MethodId} {args : Array Value} {below : List Frame} {meth : Method} {c : Code} {A : Nat → Prop} {post : Int32 → zH → Prop} (hG : xGG E G) (C : zCx p s m args meth c E G A 0 0 prog_7_method_9_code 2 cn_K) (hr : meth.sig.returnType = (some .int))  (l0 : Int32) (l1 : Int32) (h : zH) (hw : b_K_doubleMark_15 post l0 l1 h) : zGo p l e s m args below meth c E A 0 0 2 (zPi post) h 15 [some (.int l0), some (.int l1)] [] := by
  unfold b_K_doubleMark_15 at hw
  refine z_iload_n C (i := 0) d_K_doubleMark_15 rfl rfl ?_
  refine z_bipush C (v := 124) d_K_doubleMark_16 (by decide) ?_
  refine z_icmp_ne C (tgt := 30) d_K_doubleMark_18 (by decide) (fun q => ?_) (fun q => ?_)
  · replace hw := hw.1 q
    refine z_le (lv2 := [some (.int l0), some (.int l1)]) (⟨rfl, ⟨rfl, trivial⟩⟩) ?_
    exact w_K_doubleMark_30 hG C hr _ _ _ hw
  · replace hw := hw.2 q
    refine z_iload_n C (i := 1) d_K_doubleMark_21 rfl rfl ?_
    refine z_bipush C (v := 124) d_K_doubleMark_22 (by decide) ?_
    refine z_icmp_ne C (tgt := 30) d_K_doubleMark_24 (by decide) (fun q => ?_) (fun q => ?_)
    · replace hw := hw.1 q
      refine z_le (lv2 := [some (.int l0), some (.int l1)]) (⟨rfl, ⟨rfl, trivial⟩⟩) ?_
      exact w_K_doubleMark_30 hG C hr _ _ _ hw
    · replace hw := hw.2 q
      refine z_bipush C (v := 22) d_K_doubleMark_27 (by decide) ?_
      exact z_iret C hr d_K_doubleMark_29 hw
set_option maxRecDepth 100000 in
set_option maxHeartbeats 4000000 in
theorem t_K_doubleMark {l : Launch} {E : zE} {G : (Nat → Prop) → State → Prop} (hG : xGG E G) {l0 : Int32} {l1 : Int32} {h : zH} {post : Int32 → zH → Prop} (hw : wp_K_doubleMark l0 l1 h post) : Ct l xX E xcl xN zT G 0 0 y_K_doubleMark prog_7_method_9_code 2 (some .int) [.int l0, .int l1] h (zPi post) := by
  unfold wp_K_doubleMark at hw
  refine Ct.of (by decide) (Nat.le_of_ble_eq_true rfl) ?_
  intro p e s m below meth c A C hr
  refine z_lv (lv2 := [some (.int l0), some (.int l1)]) rfl ?_
  refine z_iload_n C (i := 0) d_K_doubleMark_0 rfl rfl ?_
  refine z_bipush C (v := 38) d_K_doubleMark_1 (by decide) ?_
  refine z_icmp_ne C (tgt := 15) d_K_doubleMark_3 (by decide) (fun q => ?_) (fun q => ?_)
  · replace hw := hw.1 q
    refine z_le (lv2 := [some (.int l0), some (.int l1)]) (⟨rfl, ⟨rfl, trivial⟩⟩) ?_
    exact w_K_doubleMark_15 hG C hr _ _ _ hw
  · replace hw := hw.2 q
    refine z_iload_n C (i := 1) d_K_doubleMark_6 rfl rfl ?_
    refine z_bipush C (v := 38) d_K_doubleMark_7 (by decide) ?_
    refine z_icmp_ne C (tgt := 15) d_K_doubleMark_9 (by decide) (fun q => ?_) (fun q => ?_)
    · replace hw := hw.1 q
      refine z_le (lv2 := [some (.int l0), some (.int l1)]) (⟨rfl, ⟨rfl, trivial⟩⟩) ?_
      exact w_K_doubleMark_15 hG C hr _ _ _ hw
    · replace hw := hw.2 q
      refine z_bipush C (v := 21) d_K_doubleMark_12 (by decide) ?_
      exact z_iret C hr d_K_doubleMark_14 hw
theorem d_K_singleMark_0 : decode prog_7_method_10_code 0 = .ok (.iload_n 0, 1) := by decide +kernel
theorem d_K_singleMark_1 : decode prog_7_method_10_code 1 = .ok (.tableswitch (176) (33) (63) #[173, 176, 176, 176, 164, 176, 176, 139, 141, 158, 152, 143, 155, 176, 161, 176, 176, 176, 176, 176, 176, 176, 176, 176, 176, 149, 176, 167, 176, 170, 146], 139) := by decide +kernel
theorem d_K_singleMark_140 : decode prog_7_method_10_code 140 = .ok (.iconst 4, 1) := by decide +kernel
theorem d_K_singleMark_141 : decode prog_7_method_10_code 141 = .ok (.ireturn, 1) := by decide +kernel
theorem d_K_singleMark_142 : decode prog_7_method_10_code 142 = .ok (.iconst 5, 1) := by decide +kernel
theorem d_K_singleMark_143 : decode prog_7_method_10_code 143 = .ok (.ireturn, 1) := by decide +kernel
theorem d_K_singleMark_144 : decode prog_7_method_10_code 144 = .ok (.bipush (6), 2) := by decide +kernel
theorem d_K_singleMark_146 : decode prog_7_method_10_code 146 = .ok (.ireturn, 1) := by decide +kernel
theorem d_K_singleMark_147 : decode prog_7_method_10_code 147 = .ok (.bipush (7), 2) := by decide +kernel
theorem d_K_singleMark_149 : decode prog_7_method_10_code 149 = .ok (.ireturn, 1) := by decide +kernel
theorem d_K_singleMark_150 : decode prog_7_method_10_code 150 = .ok (.bipush (8), 2) := by decide +kernel
theorem d_K_singleMark_152 : decode prog_7_method_10_code 152 = .ok (.ireturn, 1) := by decide +kernel
theorem d_K_singleMark_153 : decode prog_7_method_10_code 153 = .ok (.bipush (9), 2) := by decide +kernel
theorem d_K_singleMark_155 : decode prog_7_method_10_code 155 = .ok (.ireturn, 1) := by decide +kernel
theorem d_K_singleMark_156 : decode prog_7_method_10_code 156 = .ok (.bipush (10), 2) := by decide +kernel
theorem d_K_singleMark_158 : decode prog_7_method_10_code 158 = .ok (.ireturn, 1) := by decide +kernel
theorem d_K_singleMark_159 : decode prog_7_method_10_code 159 = .ok (.bipush (11), 2) := by decide +kernel
theorem d_K_singleMark_161 : decode prog_7_method_10_code 161 = .ok (.ireturn, 1) := by decide +kernel
theorem d_K_singleMark_162 : decode prog_7_method_10_code 162 = .ok (.bipush (12), 2) := by decide +kernel
theorem d_K_singleMark_164 : decode prog_7_method_10_code 164 = .ok (.ireturn, 1) := by decide +kernel
theorem d_K_singleMark_165 : decode prog_7_method_10_code 165 = .ok (.bipush (13), 2) := by decide +kernel
theorem d_K_singleMark_167 : decode prog_7_method_10_code 167 = .ok (.ireturn, 1) := by decide +kernel
theorem d_K_singleMark_168 : decode prog_7_method_10_code 168 = .ok (.bipush (14), 2) := by decide +kernel
theorem d_K_singleMark_170 : decode prog_7_method_10_code 170 = .ok (.ireturn, 1) := by decide +kernel
theorem d_K_singleMark_171 : decode prog_7_method_10_code 171 = .ok (.bipush (16), 2) := by decide +kernel
theorem d_K_singleMark_173 : decode prog_7_method_10_code 173 = .ok (.ireturn, 1) := by decide +kernel
theorem d_K_singleMark_174 : decode prog_7_method_10_code 174 = .ok (.bipush (20), 2) := by decide +kernel
theorem d_K_singleMark_176 : decode prog_7_method_10_code 176 = .ok (.ireturn, 1) := by decide +kernel
theorem d_K_singleMark_177 : decode prog_7_method_10_code 177 = .ok (.iconst 0, 1) := by decide +kernel
theorem d_K_singleMark_178 : decode prog_7_method_10_code 178 = .ok (.ireturn, 1) := by decide +kernel
def b_K_singleMark_177 (post : Int32 → zH → Prop) (h : zH) : Prop := post 0 h
def wp_K_singleMark (l0 : Int32) (h : zH) (post : Int32 → zH → Prop) : Prop := ((l0 = 33 → post 20 h) ∧ (¬ l0 = 33 → ((l0 = 34 → b_K_singleMark_177 post  h) ∧ (¬ l0 = 34 → ((l0 = 35 → b_K_singleMark_177 post  h) ∧ (¬ l0 = 35 → ((l0 = 36 → b_K_singleMark_177 post  h) ∧ (¬ l0 = 36 → ((l0 = 37 → post 13 h) ∧ (¬ l0 = 37 → ((l0 = 38 → b_K_singleMark_177 post  h) ∧ (¬ l0 = 38 → ((l0 = 39 → b_K_singleMark_177 post  h) ∧ (¬ l0 = 39 → ((l0 = 40 → post 4 h) ∧ (¬ l0 = 40 → ((l0 = 41 → post 5 h) ∧ (¬ l0 = 41 → ((l0 = 42 → post 11 h) ∧ (¬ l0 = 42 → ((l0 = 43 → post 9 h) ∧ (¬ l0 = 43 → ((l0 = 44 → post 6 h) ∧ (¬ l0 = 44 → ((l0 = 45 → post 10 h) ∧ (¬ l0 = 45 → ((l0 = 46 → b_K_singleMark_177 post  h) ∧ (¬ l0 = 46 → ((l0 = 47 → post 12 h) ∧ (¬ l0 = 47 → ((l0 = 48 → b_K_singleMark_177 post  h) ∧ (¬ l0 = 48 → ((l0 = 49 → b_K_singleMark_177 post  h) ∧ (¬ l0 = 49 → ((l0 = 50 → b_K_singleMark_177 post  h) ∧ (¬ l0 = 50 → ((l0 = 51 → b_K_singleMark_177 post  h) ∧ (¬ l0 = 51 → ((l0 = 52 → b_K_singleMark_177 post  h) ∧ (¬ l0 = 52 → ((l0 = 53 → b_K_singleMark_177 post  h) ∧ (¬ l0 = 53 → ((l0 = 54 → b_K_singleMark_177 post  h) ∧ (¬ l0 = 54 → ((l0 = 55 → b_K_singleMark_177 post  h) ∧ (¬ l0 = 55 → ((l0 = 56 → b_K_singleMark_177 post  h) ∧ (¬ l0 = 56 → ((l0 = 57 → b_K_singleMark_177 post  h) ∧ (¬ l0 = 57 → ((l0 = 58 → post 8 h) ∧ (¬ l0 = 58 → ((l0 = 59 → b_K_singleMark_177 post  h) ∧ (¬ l0 = 59 → ((l0 = 60 → post 14 h) ∧ (¬ l0 = 60 → ((l0 = 61 → b_K_singleMark_177 post  h) ∧ (¬ l0 = 61 → ((l0 = 62 → post 16 h) ∧ (¬ l0 = 62 → ((l0 = 63 → post 7 h) ∧ (¬ l0 = 63 → b_K_singleMark_177 post  h))))))))))))))))))))))))))))))))))))))))))))))))))))))))))))))
set_option maxRecDepth 100000 in
set_option maxHeartbeats 4000000 in
theorem w_K_singleMark_177 {l : Launch} {E : zE} {G : (Nat → Prop) → State → Prop} {p : Program} {e : Env} {s : State} {m : MethodId} {args : Array Value} {below : List Frame} {meth : Method} {c : Code} {A : Nat → Prop} {post : Int32 → zH → Prop} (hG : xGG E G) (C : zCx p s m args meth c E G A 0 0 prog_7_method_10_code 1 cn_K) (hr : meth.sig.returnType = (some .int))  (h : zH) (hw : b_K_singleMark_177 post  h) : zGo p l e s m args below meth c E A 0 0 1 (zPi post) h 177 [none] [] := by
  unfold b_K_singleMark_177 at hw
  refine z_iconst C (v := 0) d_K_singleMark_177 (by decide) ?_
  exact z_iret C hr d_K_singleMark_178 hw
set_option maxRecDepth 100000 in
set_option maxHeartbeats 4000000 in
theorem t_K_singleMark {l : Launch} {E : zE} {G : (Nat → Prop) → State → Prop} (hG : xGG E G) {l0 : Int32} {h : zH} {post : Int32 → zH → Prop} (hw : wp_K_singleMark l0 h post) : Ct l xX E xcl xN zT G 0 0 y_K_singleMark prog_7_method_10_code 1 (some .int) [.int l0] h (zPi post) := by
  unfold wp_K_singleMark at hw
  refine Ct.of (by decide) (Nat.le_of_ble_eq_true rfl) ?_
  intro p e s m below meth c A C hr
  refine z_lv (lv2 := [some (.int l0)]) rfl ?_
  refine z_iload_n C (i := 0) d_K_singleMark_0 rfl rfl ?_
  refine z_tcase C (off := 173) (tgt := 174) (33 : Int32) d_K_singleMark_1 (by decide) (by decide) rfl (by decide) (fun q0 => ?_) (fun q0 => ?_)
  · replace hw := hw.1 q0
    refine z_bipush C (v := 20) d_K_singleMark_174 (by decide) ?_
    exact z_iret C hr d_K_singleMark_176 hw
  replace hw := hw.2 q0
  refine z_tcase C (off := 176) (tgt := 177) (34 : Int32) d_K_singleMark_1 (by decide) (by decide) rfl (by decide) (fun q1 => ?_) (fun q1 => ?_)
  · replace hw := hw.1 q1
    refine z_le (lv2 := [none]) (trivial) ?_
    exact w_K_singleMark_177 hG C hr  _ hw
  replace hw := hw.2 q1
  refine z_tcase C (off := 176) (tgt := 177) (35 : Int32) d_K_singleMark_1 (by decide) (by decide) rfl (by decide) (fun q2 => ?_) (fun q2 => ?_)
  · replace hw := hw.1 q2
    refine z_le (lv2 := [none]) (trivial) ?_
    exact w_K_singleMark_177 hG C hr  _ hw
  replace hw := hw.2 q2
  refine z_tcase C (off := 176) (tgt := 177) (36 : Int32) d_K_singleMark_1 (by decide) (by decide) rfl (by decide) (fun q3 => ?_) (fun q3 => ?_)
  · replace hw := hw.1 q3
    refine z_le (lv2 := [none]) (trivial) ?_
    exact w_K_singleMark_177 hG C hr  _ hw
  replace hw := hw.2 q3
  refine z_tcase C (off := 164) (tgt := 165) (37 : Int32) d_K_singleMark_1 (by decide) (by decide) rfl (by decide) (fun q4 => ?_) (fun q4 => ?_)
  · replace hw := hw.1 q4
    refine z_bipush C (v := 13) d_K_singleMark_165 (by decide) ?_
    exact z_iret C hr d_K_singleMark_167 hw
  replace hw := hw.2 q4
  refine z_tcase C (off := 176) (tgt := 177) (38 : Int32) d_K_singleMark_1 (by decide) (by decide) rfl (by decide) (fun q5 => ?_) (fun q5 => ?_)
  · replace hw := hw.1 q5
    refine z_le (lv2 := [none]) (trivial) ?_
    exact w_K_singleMark_177 hG C hr  _ hw
  replace hw := hw.2 q5
  refine z_tcase C (off := 176) (tgt := 177) (39 : Int32) d_K_singleMark_1 (by decide) (by decide) rfl (by decide) (fun q6 => ?_) (fun q6 => ?_)
  · replace hw := hw.1 q6
    refine z_le (lv2 := [none]) (trivial) ?_
    exact w_K_singleMark_177 hG C hr  _ hw
  replace hw := hw.2 q6
  refine z_tcase C (off := 139) (tgt := 140) (40 : Int32) d_K_singleMark_1 (by decide) (by decide) rfl (by decide) (fun q7 => ?_) (fun q7 => ?_)
  · replace hw := hw.1 q7
    refine z_iconst C (v := 4) d_K_singleMark_140 (by decide) ?_
    exact z_iret C hr d_K_singleMark_141 hw
  replace hw := hw.2 q7
  refine z_tcase C (off := 141) (tgt := 142) (41 : Int32) d_K_singleMark_1 (by decide) (by decide) rfl (by decide) (fun q8 => ?_) (fun q8 => ?_)
  · replace hw := hw.1 q8
    refine z_iconst C (v := 5) d_K_singleMark_142 (by decide) ?_
    exact z_iret C hr d_K_singleMark_143 hw
  replace hw := hw.2 q8
  refine z_tcase C (off := 158) (tgt := 159) (42 : Int32) d_K_singleMark_1 (by decide) (by decide) rfl (by decide) (fun q9 => ?_) (fun q9 => ?_)
  · replace hw := hw.1 q9
    refine z_bipush C (v := 11) d_K_singleMark_159 (by decide) ?_
    exact z_iret C hr d_K_singleMark_161 hw
  replace hw := hw.2 q9
  refine z_tcase C (off := 152) (tgt := 153) (43 : Int32) d_K_singleMark_1 (by decide) (by decide) rfl (by decide) (fun q10 => ?_) (fun q10 => ?_)
  · replace hw := hw.1 q10
    refine z_bipush C (v := 9) d_K_singleMark_153 (by decide) ?_
    exact z_iret C hr d_K_singleMark_155 hw
  replace hw := hw.2 q10
  refine z_tcase C (off := 143) (tgt := 144) (44 : Int32) d_K_singleMark_1 (by decide) (by decide) rfl (by decide) (fun q11 => ?_) (fun q11 => ?_)
  · replace hw := hw.1 q11
    refine z_bipush C (v := 6) d_K_singleMark_144 (by decide) ?_
    exact z_iret C hr d_K_singleMark_146 hw
  replace hw := hw.2 q11
  refine z_tcase C (off := 155) (tgt := 156) (45 : Int32) d_K_singleMark_1 (by decide) (by decide) rfl (by decide) (fun q12 => ?_) (fun q12 => ?_)
  · replace hw := hw.1 q12
    refine z_bipush C (v := 10) d_K_singleMark_156 (by decide) ?_
    exact z_iret C hr d_K_singleMark_158 hw
  replace hw := hw.2 q12
  refine z_tcase C (off := 176) (tgt := 177) (46 : Int32) d_K_singleMark_1 (by decide) (by decide) rfl (by decide) (fun q13 => ?_) (fun q13 => ?_)
  · replace hw := hw.1 q13
    refine z_le (lv2 := [none]) (trivial) ?_
    exact w_K_singleMark_177 hG C hr  _ hw
  replace hw := hw.2 q13
  refine z_tcase C (off := 161) (tgt := 162) (47 : Int32) d_K_singleMark_1 (by decide) (by decide) rfl (by decide) (fun q14 => ?_) (fun q14 => ?_)
  · replace hw := hw.1 q14
    refine z_bipush C (v := 12) d_K_singleMark_162 (by decide) ?_
    exact z_iret C hr d_K_singleMark_164 hw
  replace hw := hw.2 q14
  refine z_tcase C (off := 176) (tgt := 177) (48 : Int32) d_K_singleMark_1 (by decide) (by decide) rfl (by decide) (fun q15 => ?_) (fun q15 => ?_)
  · replace hw := hw.1 q15
    refine z_le (lv2 := [none]) (trivial) ?_
    exact w_K_singleMark_177 hG C hr  _ hw
  replace hw := hw.2 q15
  refine z_tcase C (off := 176) (tgt := 177) (49 : Int32) d_K_singleMark_1 (by decide) (by decide) rfl (by decide) (fun q16 => ?_) (fun q16 => ?_)
  · replace hw := hw.1 q16
    refine z_le (lv2 := [none]) (trivial) ?_
    exact w_K_singleMark_177 hG C hr  _ hw
  replace hw := hw.2 q16
  refine z_tcase C (off := 176) (tgt := 177) (50 : Int32) d_K_singleMark_1 (by decide) (by decide) rfl (by decide) (fun q17 => ?_) (fun q17 => ?_)
  · replace hw := hw.1 q17
    refine z_le (lv2 := [none]) (trivial) ?_
    exact w_K_singleMark_177 hG C hr  _ hw
  replace hw := hw.2 q17
  refine z_tcase C (off := 176) (tgt := 177) (51 : Int32) d_K_singleMark_1 (by decide) (by decide) rfl (by decide) (fun q18 => ?_) (fun q18 => ?_)
  · replace hw := hw.1 q18
    refine z_le (lv2 := [none]) (trivial) ?_
    exact w_K_singleMark_177 hG C hr  _ hw
  replace hw := hw.2 q18
  refine z_tcase C (off := 176) (tgt := 177) (52 : Int32) d_K_singleMark_1 (by decide) (by decide) rfl (by decide) (fun q19 => ?_) (fun q19 => ?_)
  · replace hw := hw.1 q19
    refine z_le (lv2 := [none]) (trivial) ?_
    exact w_K_singleMark_177 hG C hr  _ hw
  replace hw := hw.2 q19
  refine z_tcase C (off := 176) (tgt := 177) (53 : Int32) d_K_singleMark_1 (by decide) (by decide) rfl (by decide) (fun q20 => ?_) (fun q20 => ?_)
  · replace hw := hw.1 q20
    refine z_le (lv2 := [none]) (trivial) ?_
    exact w_K_singleMark_177 hG C hr  _ hw
  replace hw := hw.2 q20
  refine z_tcase C (off := 176) (tgt := 177) (54 : Int32) d_K_singleMark_1 (by decide) (by decide) rfl (by decide) (fun q21 => ?_) (fun q21 => ?_)
  · replace hw := hw.1 q21
    refine z_le (lv2 := [none]) (trivial) ?_
    exact w_K_singleMark_177 hG C hr  _ hw
  replace hw := hw.2 q21
  refine z_tcase C (off := 176) (tgt := 177) (55 : Int32) d_K_singleMark_1 (by decide) (by decide) rfl (by decide) (fun q22 => ?_) (fun q22 => ?_)
  · replace hw := hw.1 q22
    refine z_le (lv2 := [none]) (trivial) ?_
    exact w_K_singleMark_177 hG C hr  _ hw
  replace hw := hw.2 q22
  refine z_tcase C (off := 176) (tgt := 177) (56 : Int32) d_K_singleMark_1 (by decide) (by decide) rfl (by decide) (fun q23 => ?_) (fun q23 => ?_)
  · replace hw := hw.1 q23
    refine z_le (lv2 := [none]) (trivial) ?_
    exact w_K_singleMark_177 hG C hr  _ hw
  replace hw := hw.2 q23
  refine z_tcase C (off := 176) (tgt := 177) (57 : Int32) d_K_singleMark_1 (by decide) (by decide) rfl (by decide) (fun q24 => ?_) (fun q24 => ?_)
  · replace hw := hw.1 q24
    refine z_le (lv2 := [none]) (trivial) ?_
    exact w_K_singleMark_177 hG C hr  _ hw
  replace hw := hw.2 q24
  refine z_tcase C (off := 149) (tgt := 150) (58 : Int32) d_K_singleMark_1 (by decide) (by decide) rfl (by decide) (fun q25 => ?_) (fun q25 => ?_)
  · replace hw := hw.1 q25
    refine z_bipush C (v := 8) d_K_singleMark_150 (by decide) ?_
    exact z_iret C hr d_K_singleMark_152 hw
  replace hw := hw.2 q25
  refine z_tcase C (off := 176) (tgt := 177) (59 : Int32) d_K_singleMark_1 (by decide) (by decide) rfl (by decide) (fun q26 => ?_) (fun q26 => ?_)
  · replace hw := hw.1 q26
    refine z_le (lv2 := [none]) (trivial) ?_
    exact w_K_singleMark_177 hG C hr  _ hw
  replace hw := hw.2 q26
  refine z_tcase C (off := 167) (tgt := 168) (60 : Int32) d_K_singleMark_1 (by decide) (by decide) rfl (by decide) (fun q27 => ?_) (fun q27 => ?_)
  · replace hw := hw.1 q27
    refine z_bipush C (v := 14) d_K_singleMark_168 (by decide) ?_
    exact z_iret C hr d_K_singleMark_170 hw
  replace hw := hw.2 q27
  refine z_tcase C (off := 176) (tgt := 177) (61 : Int32) d_K_singleMark_1 (by decide) (by decide) rfl (by decide) (fun q28 => ?_) (fun q28 => ?_)
  · replace hw := hw.1 q28
    refine z_le (lv2 := [none]) (trivial) ?_
    exact w_K_singleMark_177 hG C hr  _ hw
  replace hw := hw.2 q28
  refine z_tcase C (off := 170) (tgt := 171) (62 : Int32) d_K_singleMark_1 (by decide) (by decide) rfl (by decide) (fun q29 => ?_) (fun q29 => ?_)
  · replace hw := hw.1 q29
    refine z_bipush C (v := 16) d_K_singleMark_171 (by decide) ?_
    exact z_iret C hr d_K_singleMark_173 hw
  replace hw := hw.2 q29
  refine z_tcase C (off := 146) (tgt := 147) (63 : Int32) d_K_singleMark_1 (by decide) (by decide) rfl (by decide) (fun q30 => ?_) (fun q30 => ?_)
  · replace hw := hw.1 q30
    refine z_bipush C (v := 7) d_K_singleMark_147 (by decide) ?_
    exact z_iret C hr d_K_singleMark_149 hw
  replace hw := hw.2 q30
  refine z_tabOut C (tgt := 177) d_K_singleMark_1 (by have e0 := lv_neT q0 (a := 33) rfl; have e1 := lv_neT q1 (a := 34) rfl; have e2 := lv_neT q2 (a := 35) rfl; have e3 := lv_neT q3 (a := 36) rfl; have e4 := lv_neT q4 (a := 37) rfl; have e5 := lv_neT q5 (a := 38) rfl; have e6 := lv_neT q6 (a := 39) rfl; have e7 := lv_neT q7 (a := 40) rfl; have e8 := lv_neT q8 (a := 41) rfl; have e9 := lv_neT q9 (a := 42) rfl; have e10 := lv_neT q10 (a := 43) rfl; have e11 := lv_neT q11 (a := 44) rfl; have e12 := lv_neT q12 (a := 45) rfl; have e13 := lv_neT q13 (a := 46) rfl; have e14 := lv_neT q14 (a := 47) rfl; have e15 := lv_neT q15 (a := 48) rfl; have e16 := lv_neT q16 (a := 49) rfl; have e17 := lv_neT q17 (a := 50) rfl; have e18 := lv_neT q18 (a := 51) rfl; have e19 := lv_neT q19 (a := 52) rfl; have e20 := lv_neT q20 (a := 53) rfl; have e21 := lv_neT q21 (a := 54) rfl; have e22 := lv_neT q22 (a := 55) rfl; have e23 := lv_neT q23 (a := 56) rfl; have e24 := lv_neT q24 (a := 57) rfl; have e25 := lv_neT q25 (a := 58) rfl; have e26 := lv_neT q26 (a := 59) rfl; have e27 := lv_neT q27 (a := 60) rfl; have e28 := lv_neT q28 (a := 61) rfl; have e29 := lv_neT q29 (a := 62) rfl; have e30 := lv_neT q30 (a := 63) rfl; omega) (by decide) ?_
  refine z_le (lv2 := [none]) (trivial) ?_
  exact w_K_singleMark_177 hG C hr  _ hw
theorem d_K_readMark_0 : decode prog_7_method_8_code 0 = .ok (.aload_n 0, 1) := by decide +kernel
theorem d_K_readMark_1 : decode prog_7_method_8_code 1 = .ok (.getfield 24, 3) := by decide +kernel
theorem d_K_readMark_4 : decode prog_7_method_8_code 4 = .ok (.aload_n 0, 1) := by decide +kernel
theorem d_K_readMark_5 : decode prog_7_method_8_code 5 = .ok (.getfield 9, 3) := by decide +kernel
theorem d_K_readMark_8 : decode prog_7_method_8_code 8 = .ok (.invokevirtual 31, 3) := by decide +kernel
theorem d_K_readMark_11 : decode prog_7_method_8_code 11 = .ok (.istore_n 1, 1) := by decide +kernel
theorem d_K_readMark_12 : decode prog_7_method_8_code 12 = .ok (.aload_n 0, 1) := by decide +kernel
theorem d_K_readMark_13 : decode prog_7_method_8_code 13 = .ok (.iload_n 1, 1) := by decide +kernel
theorem d_K_readMark_14 : decode prog_7_method_8_code 14 = .ok (.aload_n 0, 1) := by decide +kernel
theorem d_K_readMark_15 : decode prog_7_method_8_code 15 = .ok (.getfield 24, 3) := by decide +kernel
theorem d_K_readMark_18 : decode prog_7_method_8_code 18 = .ok (.aload_n 0, 1) := by decide +kernel
theorem d_K_readMark_19 : decode prog_7_method_8_code 19 = .ok (.getfield 9, 3) := by decide +kernel
theorem d_K_readMark_22 : decode prog_7_method_8_code 22 = .ok (.iconst 1, 1) := by decide +kernel
theorem d_K_readMark_23 : decode prog_7_method_8_code 23 = .ok (.iadd, 1) := by decide +kernel
theorem d_K_readMark_24 : decode prog_7_method_8_code 24 = .ok (.invokevirtual 31, 3) := by decide +kernel
theorem d_K_readMark_27 : decode prog_7_method_8_code 27 = .ok (.invokestatic 70, 3) := by decide +kernel
theorem d_K_readMark_30 : decode prog_7_method_8_code 30 = .ok (.putfield 15, 3) := by decide +kernel
theorem d_K_readMark_33 : decode prog_7_method_8_code 33 = .ok (.aload_n 0, 1) := by decide +kernel
theorem d_K_readMark_34 : decode prog_7_method_8_code 34 = .ok (.dup, 1) := by decide +kernel
theorem d_K_readMark_35 : decode prog_7_method_8_code 35 = .ok (.getfield 9, 3) := by decide +kernel
theorem d_K_readMark_38 : decode prog_7_method_8_code 38 = .ok (.iconst 2, 1) := by decide +kernel
theorem d_K_readMark_39 : decode prog_7_method_8_code 39 = .ok (.iadd, 1) := by decide +kernel
theorem d_K_readMark_40 : decode prog_7_method_8_code 40 = .ok (.putfield 9, 3) := by decide +kernel
theorem d_K_readMark_43 : decode prog_7_method_8_code 43 = .ok (.aload_n 0, 1) := by decide +kernel
theorem d_K_readMark_44 : decode prog_7_method_8_code 44 = .ok (.getfield 15, 3) := by decide +kernel
theorem d_K_readMark_47 : decode prog_7_method_8_code 47 = .ok (.ifCond .ne (21), 3) := by decide +kernel
theorem d_K_readMark_50 : decode prog_7_method_8_code 50 = .ok (.aload_n 0, 1) := by decide +kernel
theorem d_K_readMark_51 : decode prog_7_method_8_code 51 = .ok (.iload_n 1, 1) := by decide +kernel
theorem d_K_readMark_52 : decode prog_7_method_8_code 52 = .ok (.invokestatic 74, 3) := by decide +kernel
theorem d_K_readMark_55 : decode prog_7_method_8_code 55 = .ok (.putfield 15, 3) := by decide +kernel
theorem d_K_readMark_58 : decode prog_7_method_8_code 58 = .ok (.aload_n 0, 1) := by decide +kernel
theorem d_K_readMark_59 : decode prog_7_method_8_code 59 = .ok (.dup, 1) := by decide +kernel
theorem d_K_readMark_60 : decode prog_7_method_8_code 60 = .ok (.getfield 9, 3) := by decide +kernel
theorem d_K_readMark_63 : decode prog_7_method_8_code 63 = .ok (.iconst 1, 1) := by decide +kernel
theorem d_K_readMark_64 : decode prog_7_method_8_code 64 = .ok (.isub, 1) := by decide +kernel
theorem d_K_readMark_65 : decode prog_7_method_8_code 65 = .ok (.putfield 9, 3) := by decide +kernel
theorem d_K_readMark_68 : decode prog_7_method_8_code 68 = .ok (.return_, 1) := by decide +kernel
def b_K_readMark_68 (post : zH → Prop) (h : zH) : Prop := post h
def wp_K_readMark (h : zH) (post : zH → Prop) : Prop := wp_A_signAt ((h.1 30 1)) h (fun (r1 : Int32) (h2 : zH) => wp_A_signAt (((h2.1 30 1) + 1)) h2 (fun (r3 : Int32) (h4 : zH) => wp_K_doubleMark (r1) (r3) h4 (fun (r5 : Int32) (h6 : zH) => (∀ h7 : zH, h7 = zi h6 30 2 r5 → (∀ h8 : zH, h8 = zi h7 30 1 ((h7.1 30 1) + 2) → ((¬ (h8.1 30 2) = 0 → b_K_readMark_68 post  h8) ∧ ((h8.1 30 2) = 0 → wp_K_singleMark (r1) h8 (fun (r9 : Int32) (h10 : zH) => (∀ h11 : zH, h11 = zi h10 30 2 r9 → (∀ h12 : zH, h12 = zi h11 30 1 ((h11.1 30 1) - 1) → b_K_readMark_68 post  h12))))))))))
set_option maxRecDepth 100000 in
set_option maxHeartbeats 4000000 in
theorem w_K_readMark_68 {l : Launch} {E : zE} {G : (Nat → Prop) → State → Prop} {p : Program} {e : Env} {s : State} {m : MethodId} {args : Array Value} {below : List Frame} {meth : Method} {c : Code} {A : Nat → Prop} {post : zH → Prop} (hG : xGG E G) (C : zCx p s m args meth c E G A 2 42 prog_7_method_8_code 2 cn_K) (hr : meth.sig.returnType = none)  (h : zH) (hw : b_K_readMark_68 post  h) : zGo p l e s m args below meth c E A 2 42 2 (zPv post) h 68 [none, none] [] := by
  unfold b_K_readMark_68 at hw
  exact z_vret C hr d_K_readMark_68 hw
set_option maxRecDepth 100000 in
set_option maxHeartbeats 4000000 in
theorem t_K_readMark {l : Launch} {E : zE} {G : (Nat → Prop) → State → Prop} (hG : xGG E G) {h : zH} {post : zH → Prop} (hw : wp_K_readMark  h post) : Ct l xX E xcl xN zT G 2 42 y_K_readMark prog_7_method_8_code 2 none [.ref (E.2.2.1 30)] h (zPv post) := by
  unfold wp_K_readMark at hw
  refine Ct.of (by decide) (Nat.le_of_ble_eq_true rfl) ?_
  intro p e s m below meth c A C hr
  refine z_lv (lv2 := [some (.ref (E.2.2.1 30)), none]) rfl ?_
  refine z_aload_n C (i := 0) d_K_readMark_0 rfl rfl ?_
  refine z_getS C (ci := 5) (j := 0) (F := cf_K) (by decide) rfl rfl in_K (by decide) fl_K_24 rfl d_K_readMark_1 ?_
  refine z_aload_n C (i := 0) d_K_readMark_4 rfl rfl ?_
  refine z_getI C (ci := 5) (j := 1) (F := cf_K) (by decide) rfl rfl in_K (by decide) fl_K_9 rfl d_K_readMark_5 ?_
  refine z_callVNi ⟨xN_ok, hG.1⟩ zT_good C (t_A_signAt hG hw) wn_A_signAt nl_K_31 (by decide) rfl rfl (by decide) (by decide) pl_A_signAt rfl rfl (Nat.le_of_ble_eq_true rfl) d_K_readMark_8 (fun r1 h2 hw => ?_)
  refine z_istore_n C (i := 1) d_K_readMark_11 rfl (by decide) rfl ?_
  refine z_aload_n C (i := 0) d_K_readMark_12 rfl rfl ?_
  refine z_iload_n C (i := 1) d_K_readMark_13 rfl rfl ?_
  refine z_aload_n C (i := 0) d_K_readMark_14 rfl rfl ?_
  refine z_getS C (ci := 5) (j := 0) (F := cf_K) (by decide) rfl rfl in_K (by decide) fl_K_24 rfl d_K_readMark_15 ?_
  refine z_aload_n C (i := 0) d_K_readMark_18 rfl rfl ?_
  refine z_getI C (ci := 5) (j := 1) (F := cf_K) (by decide) rfl rfl in_K (by decide) fl_K_9 rfl d_K_readMark_19 ?_
  refine z_iconst C (v := 1) d_K_readMark_22 (by decide) ?_
  refine z_iadd C d_K_readMark_23 ?_
  refine z_callVNi ⟨xN_ok, hG.1⟩ zT_good C (t_A_signAt hG hw) wn_A_signAt nl_K_31 (by decide) rfl rfl (by decide) (by decide) pl_A_signAt rfl rfl (Nat.le_of_ble_eq_true rfl) d_K_readMark_24 (fun r3 h4 hw => ?_)
  refine z_callSi ⟨xN_ok, hG.1⟩ zT_good C (t_K_doubleMark hG hw) ol_K_70 (by decide) (by decide) pl_K_doubleMark rfl rfl (Nat.le_of_ble_eq_true rfl) d_K_readMark_27 (fun r5 h6 hw => ?_)
  refine z_putI C (ci := 5) (j := 2) (F := cf_K) ct_K (by decide) rfl rfl in_K ty_K nm_K (by decide) fl_K_15 rfl (by decide +kernel) rfl d_K_readMark_30 (fun h7 eh7 => ?_)
  replace hw := hw h7 eh7
  refine z_aload_n C (i := 0) d_K_readMark_33 rfl rfl ?_
  refine z_dup C d_K_readMark_34 rfl ?_
  refine z_getI C (ci := 5) (j := 1) (F := cf_K) (by decide) rfl rfl in_K (by decide) fl_K_9 rfl d_K_readMark_35 ?_
  refine z_iconst C (v := 2) d_K_readMark_38 (by decide) ?_
  refine z_iadd C d_K_readMark_39 ?_
  refine z_putI C (ci := 5) (j := 1) (F := cf_K) ct_K (by decide) rfl rfl in_K ty_K nm_K (by decide) fl_K_9 rfl (by decide +kernel) rfl d_K_readMark_40 (fun h8 eh8 => ?_)
  replace hw := hw h8 eh8
  refine z_aload_n C (i := 0) d_K_readMark_43 rfl rfl ?_
  refine z_getI C (ci := 5) (j := 2) (F := cf_K) (by decide) rfl rfl in_K (by decide) fl_K_15 rfl d_K_readMark_44 ?_
  refine z_if_ne C (tgt := 68) d_K_readMark_47 (by decide) (fun q => ?_) (fun q => ?_)
  · replace hw := hw.1 q
    refine z_le (lv2 := [none, none]) (trivial) ?_
    exact w_K_readMark_68 hG C hr  _ hw
  · replace hw := hw.2 q
    refine z_aload_n C (i := 0) d_K_readMark_50 rfl rfl ?_
    refine z_iload_n C (i := 1) d_K_readMark_51 rfl rfl ?_
    refine z_callSi ⟨xN_ok, hG.1⟩ zT_good C (t_K_singleMark hG hw) ol_K_74 (by decide) (by decide) pl_K_singleMark rfl rfl (Nat.le_of_ble_eq_true rfl) d_K_readMark_52 (fun r9 h10 hw => ?_)
    refine z_putI C (ci := 5) (j := 2) (F := cf_K) ct_K (by decide) rfl rfl in_K ty_K nm_K (by decide) fl_K_15 rfl (by decide +kernel) rfl d_K_readMark_55 (fun h11 eh11 => ?_)
    replace hw := hw h11 eh11
    refine z_aload_n C (i := 0) d_K_readMark_58 rfl rfl ?_
    refine z_dup C d_K_readMark_59 rfl ?_
    refine z_getI C (ci := 5) (j := 1) (F := cf_K) (by decide) rfl rfl in_K (by decide) fl_K_9 rfl d_K_readMark_60 ?_
    refine z_iconst C (v := 1) d_K_readMark_63 (by decide) ?_
    refine z_isub C d_K_readMark_64 ?_
    refine z_putI C (ci := 5) (j := 1) (F := cf_K) ct_K (by decide) rfl rfl in_K ty_K nm_K (by decide) fl_K_9 rfl (by decide +kernel) rfl d_K_readMark_65 (fun h12 eh12 => ?_)
    replace hw := hw h12 eh12
    refine z_le (lv2 := [none, none]) (trivial) ?_
    exact w_K_readMark_68 hG C hr  _ hw
