theorem d_P_readBracket_0 : decode prog_2_method_7_code 0 = .ok (.aload_n 0, 1) := by decide +kernel
theorem d_P_readBracket_1 : decode prog_2_method_7_code 1 = .ok (.getfield 54, 3) := by decide +kernel
theorem d_P_readBracket_4 : decode prog_2_method_7_code 4 = .ok (.getfield 90, 3) := by decide +kernel
theorem d_P_readBracket_7 : decode prog_2_method_7_code 7 = .ok (.iconst 4, 1) := by decide +kernel
theorem d_P_readBracket_8 : decode prog_2_method_7_code 8 = .ok (.if_icmp .ne (11), 3) := by decide +kernel
theorem d_P_readBracket_11 : decode prog_2_method_7_code 11 = .ok (.aload_n 0, 1) := by decide +kernel
theorem d_P_readBracket_12 : decode prog_2_method_7_code 12 = .ok (.iconst 0, 1) := by decide +kernel
theorem d_P_readBracket_13 : decode prog_2_method_7_code 13 = .ok (.putfield 39, 3) := by decide +kernel
theorem d_P_readBracket_16 : decode prog_2_method_7_code 16 = .ok (.goto (15), 3) := by decide +kernel
theorem d_P_readBracket_19 : decode prog_2_method_7_code 19 = .ok (.aload_n 0, 1) := by decide +kernel
theorem d_P_readBracket_20 : decode prog_2_method_7_code 20 = .ok (.iconst 1, 1) := by decide +kernel
theorem d_P_readBracket_21 : decode prog_2_method_7_code 21 = .ok (.aload_n 0, 1) := by decide +kernel
theorem d_P_readBracket_22 : decode prog_2_method_7_code 22 = .ok (.getfield 54, 3) := by decide +kernel
theorem d_P_readBracket_25 : decode prog_2_method_7_code 25 = .ok (.getfield 100, 3) := by decide +kernel
theorem d_P_readBracket_28 : decode prog_2_method_7_code 28 = .ok (.invokevirtual 114, 3) := by decide +kernel
theorem d_P_readBracket_31 : decode prog_2_method_7_code 31 = .ok (.return_, 1) := by decide +kernel
def b_P_readBracket_31 (post : zH → Prop) (h : zH) : Prop := post h
def wp_P_readBracket (h : zH) (post : zH → Prop) : Prop := ((¬ (h.1 30 2) = 4 → wp_P_blame (1) ((h.1 30 3)) h (fun (h2 : zH) => b_P_readBracket_31 post  h2)) ∧ ((h.1 30 2) = 4 → (∀ h3 : zH, h3 = zi h 29 9 0 → b_P_readBracket_31 post  h3)))
set_option maxRecDepth 100000 in
set_option maxHeartbeats 4000000 in
theorem w_P_readBracket_31 {l : Launch} {E : zE} {G : (Nat → Prop) → State → Prop} {p : Program} {e : Env} {s : State} {m : MethodId} {args : Array Value} {below : List Frame} {meth : Method} {c : Code} {A : Nat → Prop} {post : zH → Prop} (hG : xGG E G) (C : zCx p s m args meth c E G A 1 22 prog_2_method_7_code 1 cn_P) (hr : meth.sig.returnType = none)  (h : zH) (hw : b_P_readBracket_31 post  h) : zGo p l e s m args below meth c E A 1 22 1 (zPv post) h 31 [none] [] := by
  unfold b_P_readBracket_31 at hw
  exact z_vret C hr d_P_readBracket_31 hw
set_option maxRecDepth 100000 in
set_option maxHeartbeats 4000000 in
theorem t_P_readBracket {l : Launch} {E : zE} {G : (Nat → Prop) → State → Prop} (hG : xGG E G) {h : zH} {post : zH → Prop} (hw : wp_P_readBracket  h post) : Ct l xX E xcl xN zT G 1 22 y_P_readBracket prog_2_method_7_code 1 none [.ref (E.2.2.1 29)] h (zPv post) := by
  unfold wp_P_readBracket at hw
  refine Ct.of (by decide) (Nat.le_of_ble_eq_true rfl) ?_
  intro p e s m below meth c A C hr
  refine z_lv (lv2 := [some (.ref (E.2.2.1 29))]) rfl ?_
  refine z_aload_n C (i := 0) d_P_readBracket_0 rfl rfl ?_
  refine z_getS C (ci := 4) (j := 1) (F := cf_P) (by decide) rfl rfl in_P (by decide) fl_P_54 rfl d_P_readBracket_1 ?_
  refine z_getIN C (ci := 5) (j := 2) (F := cf_K) (by decide) rfl rfl in_K (by decide) fn_P_90 rfl d_P_readBracket_4 ?_
  refine z_iconst C (v := 4) d_P_readBracket_7 (by decide) ?_
  refine z_icmp_ne C (tgt := 19) d_P_readBracket_8 (by decide) (fun q => ?_) (fun q => ?_)
  · replace hw := hw.1 q
    refine z_aload_n C (i := 0) d_P_readBracket_19 rfl rfl ?_
    refine z_iconst C (v := 1) d_P_readBracket_20 (by decide) ?_
    refine z_aload_n C (i := 0) d_P_readBracket_21 rfl rfl ?_
    refine z_getS C (ci := 4) (j := 1) (F := cf_P) (by decide) rfl rfl in_P (by decide) fl_P_54 rfl d_P_readBracket_22 ?_
    refine z_getIN C (ci := 5) (j := 3) (F := cf_K) (by decide) rfl rfl in_K (by decide) fn_P_100 rfl d_P_readBracket_25 ?_
    refine z_callVv ⟨xN_ok, hG.1⟩ zT_good C (t_P_blame hG hw) ol_P_114 (by decide) rfl rfl (by decide) (by decide) pl_P_blame rfl rfl (Nat.le_of_ble_eq_true rfl) d_P_readBracket_28 (fun h2 hw => ?_)
    refine z_le (lv2 := [none]) (trivial) ?_
    exact w_P_readBracket_31 hG C hr  _ hw
  · replace hw := hw.2 q
    refine z_aload_n C (i := 0) d_P_readBracket_11 rfl rfl ?_
    refine z_iconst C (v := 0) d_P_readBracket_12 (by decide) ?_
    refine z_putI C (ci := 4) (j := 9) (F := cf_P) ct_P (by decide) rfl rfl in_P ty_P nm_P (by decide) fl_P_39 rfl (by decide +kernel) rfl d_P_readBracket_13 (fun h3 eh3 => ?_)
    replace hw := hw h3 eh3
    refine z_goto C (tgt := 31) d_P_readBracket_16 (by decide) ?_
    refine z_le (lv2 := [none]) (trivial) ?_
    exact w_P_readBracket_31 hG C hr  _ hw
theorem d_V_has_0 : decode prog_8_method_2_code 0 = .ok (.iload_n 1, 1) := by decide +kernel
theorem d_V_has_1 : decode prog_8_method_2_code 1 = .ok (.ifCond .lt (21), 3) := by decide +kernel
theorem d_V_has_4 : decode prog_8_method_2_code 4 = .ok (.iload_n 1, 1) := by decide +kernel
theorem d_V_has_5 : decode prog_8_method_2_code 5 = .ok (.aload_n 0, 1) := by decide +kernel
theorem d_V_has_6 : decode prog_8_method_2_code 6 = .ok (.getfield 21, 3) := by decide +kernel
theorem d_V_has_9 : decode prog_8_method_2_code 9 = .ok (.if_icmp .ge (13), 3) := by decide +kernel
theorem d_V_has_12 : decode prog_8_method_2_code 12 = .ok (.iload_n 1, 1) := by decide +kernel
theorem d_V_has_13 : decode prog_8_method_2_code 13 = .ok (.bipush (20), 2) := by decide +kernel
theorem d_V_has_15 : decode prog_8_method_2_code 15 = .ok (.if_icmp .ge (7), 3) := by decide +kernel
theorem d_V_has_18 : decode prog_8_method_2_code 18 = .ok (.iconst 1, 1) := by decide +kernel
theorem d_V_has_19 : decode prog_8_method_2_code 19 = .ok (.goto (4), 3) := by decide +kernel
theorem d_V_has_22 : decode prog_8_method_2_code 22 = .ok (.iconst 0, 1) := by decide +kernel
theorem d_V_has_23 : decode prog_8_method_2_code 23 = .ok (.ireturn, 1) := by decide +kernel
def b_V_has_23 (post : Int32 → zH → Prop) (s0 : Int32) (h : zH) : Prop := (narrow .boolean (.int s0) = .int s0 ∧ post s0 h)
def b_V_has_22 (post : Int32 → zH → Prop) (h : zH) : Prop := b_V_has_23 post (0) h
def wp_V_has (l1 : Int32) (h : zH) (post : Int32 → zH → Prop) : Prop := ((l1 < 0 → b_V_has_22 post  h) ∧ (¬ l1 < 0 → (((h.1 1 3) ≤ l1 → b_V_has_22 post  h) ∧ (¬ (h.1 1 3) ≤ l1 → ((20 ≤ l1 → b_V_has_22 post  h) ∧ (¬ 20 ≤ l1 → b_V_has_23 post (1) h))))))
set_option maxRecDepth 100000 in
set_option maxHeartbeats 4000000 in
theorem w_V_has_23 {l : Launch} {E : zE} {G : (Nat → Prop) → State → Prop} {p : Program} {e : Env} {s : State} {m : MethodId} {args : Array Value} {below : List Frame} {meth : Method} {c : Code} {A : Nat → Prop} {post : Int32 → zH → Prop} (hG : xGG E G) (C : zCx p s m args meth c E G A 0 0 prog_8_method_2_code 2 cn_V) (hr : meth.sig.returnType = (some .boolean))  (s0 : Int32) (h : zH) (hw : b_V_has_23 post s0 h) : zGo p l e s m args below meth c E A 0 0 2 (zPi post) h 23 [none, none] [.int s0] := by
  unfold b_V_has_23 at hw
  exact z_zret C hr hw.1 d_V_has_23 hw.2
set_option maxRecDepth 100000 in
set_option maxHeartbeats 4000000 in
theorem w_V_has_22 {l : Launch} {E : zE} {G : (Nat → Prop) → State → Prop} {p : Program} {e : Env} {s : State} {m : MethodId} {args : Array Value} {below : List Frame} {meth : Method} {c : Code} {A : Nat → Prop} {post : Int32 → zH → Prop} (hG : xGG E G) (C : zCx p s m args meth c E G A 0 0 prog_8_method_2_code 2 cn_V) (hr : meth.sig.returnType = (some .boolean))  (h : zH) (hw : b_V_has_22 post  h) : zGo p l e s m args below meth c E A 0 0 2 (zPi post) h 22 [none, none] [] := by
  unfold b_V_has_22 at hw
  refine z_iconst C (v := 0) d_V_has_22 (by decide) ?_
  refine z_le (lv2 := [none, none]) (trivial) ?_
  exact w_V_has_23 hG C hr _ _ hw
set_option maxRecDepth 100000 in
set_option maxHeartbeats 4000000 in
theorem t_V_has {l : Launch} {E : zE} {G : (Nat → Prop) → State → Prop} (hG : xGG E G) {l1 : Int32} {h : zH} {post : Int32 → zH → Prop} (hw : wp_V_has l1 h post) : Ct l xX E xcl xN zT G 0 0 y_V_has prog_8_method_2_code 2 (some .boolean) [.ref (E.2.2.1 1), .int l1] h (zPi post) := by
  unfold wp_V_has at hw
  refine Ct.of (by decide) (Nat.le_of_ble_eq_true rfl) ?_
  intro p e s m below meth c A C hr
  refine z_lv (lv2 := [some (.ref (E.2.2.1 1)), some (.int l1)]) rfl ?_
  refine z_iload_n C (i := 1) d_V_has_0 rfl rfl ?_
  refine z_if_lt C (tgt := 22) d_V_has_1 (by decide) (fun q => ?_) (fun q => ?_)
  · replace hw := hw.1 q
    refine z_le (lv2 := [none, none]) (trivial) ?_
    exact w_V_has_22 hG C hr  _ hw
  · replace hw := hw.2 q
    refine z_iload_n C (i := 1) d_V_has_4 rfl rfl ?_
    refine z_aload_n C (i := 0) d_V_has_5 rfl rfl ?_
    refine z_getI C (ci := 1) (j := 3) (F := cf_V) (by decide) rfl rfl in_V (by decide) fl_V_21 rfl d_V_has_6 ?_
    refine z_icmp_ge C (tgt := 22) d_V_has_9 (by decide) (fun q => ?_) (fun q => ?_)
    · replace hw := hw.1 q
      refine z_le (lv2 := [none, none]) (trivial) ?_
      exact w_V_has_22 hG C hr  _ hw
    · replace hw := hw.2 q
      refine z_iload_n C (i := 1) d_V_has_12 rfl rfl ?_
      refine z_bipush C (v := 20) d_V_has_13 (by decide) ?_
      refine z_icmp_ge C (tgt := 22) d_V_has_15 (by decide) (fun q => ?_) (fun q => ?_)
      · replace hw := hw.1 q
        refine z_le (lv2 := [none, none]) (trivial) ?_
        exact w_V_has_22 hG C hr  _ hw
      · replace hw := hw.2 q
        refine z_iconst C (v := 1) d_V_has_18 (by decide) ?_
        refine z_goto C (tgt := 23) d_V_has_19 (by decide) ?_
        refine z_le (lv2 := [none, none]) (trivial) ?_
        exact w_V_has_23 hG C hr _ _ hw
theorem d_V_highOf_0 : decode prog_8_method_6_code 0 = .ok (.aload_n 0, 1) := by decide +kernel
theorem d_V_highOf_1 : decode prog_8_method_6_code 1 = .ok (.getfield 15, 3) := by decide +kernel
theorem d_V_highOf_4 : decode prog_8_method_6_code 4 = .ok (.iload_n 1, 1) := by decide +kernel
theorem d_V_highOf_5 : decode prog_8_method_6_code 5 = .ok (.invokestatic 40, 3) := by decide +kernel
theorem d_V_highOf_8 : decode prog_8_method_6_code 8 = .ok (.ireturn, 1) := by decide +kernel
def wp_V_highOf (l1 : Int32) (h : zH) (post : Int32 → zH → Prop) : Prop := wp_R_at 3 20 (l1) h (fun (r1 : Int32) (h2 : zH) => post r1 h2)
set_option maxRecDepth 100000 in
set_option maxHeartbeats 4000000 in
theorem t_V_highOf {l : Launch} {E : zE} {G : (Nat → Prop) → State → Prop} (hG : xGG E G) {l1 : Int32} {h : zH} {post : Int32 → zH → Prop} (hw : wp_V_highOf l1 h post) : Ct l xX E xcl xN zT G 1 21 y_V_highOf prog_8_method_6_code 2 (some .int) [.ref (E.2.2.1 1), .int l1] h (zPi post) := by
  unfold wp_V_highOf at hw
  refine Ct.of (by decide) (Nat.le_of_ble_eq_true rfl) ?_
  intro p e s m below meth c A C hr
  refine z_lv (lv2 := [some (.ref (E.2.2.1 1)), some (.int l1)]) rfl ?_
  refine z_aload_n C (i := 0) d_V_highOf_0 rfl rfl ?_
  refine z_getS C (ci := 1) (j := 1) (F := cf_V) (by decide) rfl rfl in_V (by decide) fl_V_15 rfl d_V_highOf_1 ?_
  refine z_iload_n C (i := 1) d_V_highOf_4 rfl rfl ?_
  refine z_callSNi ⟨xN_ok, hG.1⟩ zT_good C (t_R_at hG hw) wn_R_at nl_V_40 (by decide) (by decide) pl_R_at rfl rfl (Nat.le_of_ble_eq_true rfl) d_V_highOf_5 (fun r1 h2 hw => ?_)
  exact z_iret C hr d_V_highOf_8 hw
theorem d_V_lowOf_0 : decode prog_8_method_5_code 0 = .ok (.aload_n 0, 1) := by decide +kernel
theorem d_V_lowOf_1 : decode prog_8_method_5_code 1 = .ok (.getfield 9, 3) := by decide +kernel
theorem d_V_lowOf_4 : decode prog_8_method_5_code 4 = .ok (.iload_n 1, 1) := by decide +kernel
theorem d_V_lowOf_5 : decode prog_8_method_5_code 5 = .ok (.invokestatic 40, 3) := by decide +kernel
theorem d_V_lowOf_8 : decode prog_8_method_5_code 8 = .ok (.ireturn, 1) := by decide +kernel
def wp_V_lowOf (l1 : Int32) (h : zH) (post : Int32 → zH → Prop) : Prop := wp_R_at 2 20 (l1) h (fun (r1 : Int32) (h2 : zH) => post r1 h2)
set_option maxRecDepth 100000 in
set_option maxHeartbeats 4000000 in
theorem t_V_lowOf {l : Launch} {E : zE} {G : (Nat → Prop) → State → Prop} (hG : xGG E G) {l1 : Int32} {h : zH} {post : Int32 → zH → Prop} (hw : wp_V_lowOf l1 h post) : Ct l xX E xcl xN zT G 1 21 y_V_lowOf prog_8_method_5_code 2 (some .int) [.ref (E.2.2.1 1), .int l1] h (zPi post) := by
  unfold wp_V_lowOf at hw
  refine Ct.of (by decide) (Nat.le_of_ble_eq_true rfl) ?_
  intro p e s m below meth c A C hr
  refine z_lv (lv2 := [some (.ref (E.2.2.1 1)), some (.int l1)]) rfl ?_
  refine z_aload_n C (i := 0) d_V_lowOf_0 rfl rfl ?_
  refine z_getS C (ci := 1) (j := 0) (F := cf_V) (by decide) rfl rfl in_V (by decide) fl_V_9 rfl d_V_lowOf_1 ?_
  refine z_iload_n C (i := 1) d_V_lowOf_4 rfl rfl ?_
  refine z_callSNi ⟨xN_ok, hG.1⟩ zT_good C (t_R_at hG hw) wn_R_at nl_V_40 (by decide) (by decide) pl_R_at rfl rfl (Nat.le_of_ble_eq_true rfl) d_V_lowOf_5 (fun r1 h2 hw => ?_)
  exact z_iret C hr d_V_lowOf_8 hw
theorem d_P_readVariable_0 : decode prog_2_method_6_code 0 = .ok (.aload_n 0, 1) := by decide +kernel
theorem d_P_readVariable_1 : decode prog_2_method_6_code 1 = .ok (.getfield 54, 3) := by decide +kernel
theorem d_P_readVariable_4 : decode prog_2_method_6_code 4 = .ok (.getfield 93, 3) := by decide +kernel
theorem d_P_readVariable_7 : decode prog_2_method_6_code 7 = .ok (.istore_n 1, 1) := by decide +kernel
theorem d_P_readVariable_8 : decode prog_2_method_6_code 8 = .ok (.aload_n 0, 1) := by decide +kernel
theorem d_P_readVariable_9 : decode prog_2_method_6_code 9 = .ok (.getfield 45, 3) := by decide +kernel
theorem d_P_readVariable_12 : decode prog_2_method_6_code 12 = .ok (.iload_n 1, 1) := by decide +kernel
theorem d_P_readVariable_13 : decode prog_2_method_6_code 13 = .ok (.invokevirtual 117, 3) := by decide +kernel
theorem d_P_readVariable_16 : decode prog_2_method_6_code 16 = .ok (.ifCond .ne (16), 3) := by decide +kernel
theorem d_P_readVariable_19 : decode prog_2_method_6_code 19 = .ok (.aload_n 0, 1) := by decide +kernel
theorem d_P_readVariable_20 : decode prog_2_method_6_code 20 = .ok (.iconst 1, 1) := by decide +kernel
theorem d_P_readVariable_21 : decode prog_2_method_6_code 21 = .ok (.aload_n 0, 1) := by decide +kernel
theorem d_P_readVariable_22 : decode prog_2_method_6_code 22 = .ok (.getfield 54, 3) := by decide +kernel
theorem d_P_readVariable_25 : decode prog_2_method_6_code 25 = .ok (.getfield 100, 3) := by decide +kernel
theorem d_P_readVariable_28 : decode prog_2_method_6_code 28 = .ok (.invokevirtual 114, 3) := by decide +kernel
theorem d_P_readVariable_31 : decode prog_2_method_6_code 31 = .ok (.return_, 1) := by decide +kernel
theorem d_P_readVariable_32 : decode prog_2_method_6_code 32 = .ok (.aload_n 0, 1) := by decide +kernel
theorem d_P_readVariable_33 : decode prog_2_method_6_code 33 = .ok (.getfield 36, 3) := by decide +kernel
theorem d_P_readVariable_36 : decode prog_2_method_6_code 36 = .ok (.aload_n 0, 1) := by decide +kernel
theorem d_P_readVariable_37 : decode prog_2_method_6_code 37 = .ok (.getfield 45, 3) := by decide +kernel
theorem d_P_readVariable_40 : decode prog_2_method_6_code 40 = .ok (.iload_n 1, 1) := by decide +kernel
theorem d_P_readVariable_41 : decode prog_2_method_6_code 41 = .ok (.invokevirtual 123, 3) := by decide +kernel
theorem d_P_readVariable_44 : decode prog_2_method_6_code 44 = .ok (.i2l, 1) := by decide +kernel
theorem d_P_readVariable_45 : decode prog_2_method_6_code 45 = .ok (.aload_n 0, 1) := by decide +kernel
theorem d_P_readVariable_46 : decode prog_2_method_6_code 46 = .ok (.getfield 45, 3) := by decide +kernel
theorem d_P_readVariable_49 : decode prog_2_method_6_code 49 = .ok (.iload_n 1, 1) := by decide +kernel
theorem d_P_readVariable_50 : decode prog_2_method_6_code 50 = .ok (.invokevirtual 127, 3) := by decide +kernel
theorem d_P_readVariable_53 : decode prog_2_method_6_code 53 = .ok (.i2l, 1) := by decide +kernel
theorem d_P_readVariable_54 : decode prog_2_method_6_code 54 = .ok (.invokevirtual 96, 3) := by decide +kernel
theorem d_P_readVariable_57 : decode prog_2_method_6_code 57 = .ok (.aload_n 0, 1) := by decide +kernel
theorem d_P_readVariable_58 : decode prog_2_method_6_code 58 = .ok (.iconst 3, 1) := by decide +kernel
theorem d_P_readVariable_59 : decode prog_2_method_6_code 59 = .ok (.aload_n 0, 1) := by decide +kernel
theorem d_P_readVariable_60 : decode prog_2_method_6_code 60 = .ok (.getfield 54, 3) := by decide +kernel
theorem d_P_readVariable_63 : decode prog_2_method_6_code 63 = .ok (.getfield 100, 3) := by decide +kernel
theorem d_P_readVariable_66 : decode prog_2_method_6_code 66 = .ok (.iconst 0, 1) := by decide +kernel
theorem d_P_readVariable_67 : decode prog_2_method_6_code 67 = .ok (.iload_n 1, 1) := by decide +kernel
theorem d_P_readVariable_68 : decode prog_2_method_6_code 68 = .ok (.invokevirtual 103, 3) := by decide +kernel
theorem d_P_readVariable_71 : decode prog_2_method_6_code 71 = .ok (.return_, 1) := by decide +kernel
def wp_P_readVariable (h : zH) (post : zH → Prop) : Prop := wp_V_has ((h.1 30 4)) h (fun (r1 : Int32) (h2 : zH) => ((¬ r1 = 0 → wp_V_lowOf ((h.1 30 4)) h2 (fun (r3 : Int32) (h4 : zH) => wp_V_highOf ((h.1 30 4)) h4 (fun (r5 : Int32) (h6 : zH) => wp_N_put 38 ((r3 : Int32).toInt64) ((r5 : Int32).toInt64) h6 (fun (h8 : zH) => wp_P_addPart (3) ((h8.1 30 3)) (0) ((h.1 30 4)) h8 (fun (h10 : zH) => post h10))))) ∧ (r1 = 0 → wp_P_blame (1) ((h2.1 30 3)) h2 (fun (h12 : zH) => post h12))))
set_option maxRecDepth 100000 in
set_option maxHeartbeats 4000000 in
theorem t_P_readVariable {l : Launch} {E : zE} {G : (Nat → Prop) → State → Prop} (hG : xGG E G) {h : zH} {post : zH → Prop} (hw : wp_P_readVariable  h post) : Ct l xX E xcl xN zT G 3 70 y_P_readVariable prog_2_method_6_code 2 none [.ref (E.2.2.1 29)] h (zPv post) := by
  unfold wp_P_readVariable at hw
  refine Ct.of (by decide) (Nat.le_of_ble_eq_true rfl) ?_
  intro p e s m below meth c A C hr
  refine z_lv (lv2 := [some (.ref (E.2.2.1 29)), none]) rfl ?_
  refine z_aload_n C (i := 0) d_P_readVariable_0 rfl rfl ?_
  refine z_getS C (ci := 4) (j := 1) (F := cf_P) (by decide) rfl rfl in_P (by decide) fl_P_54 rfl d_P_readVariable_1 ?_
  refine z_getIN C (ci := 5) (j := 4) (F := cf_K) (by decide) rfl rfl in_K (by decide) fn_P_93 rfl d_P_readVariable_4 ?_
  refine z_istore_n C (i := 1) d_P_readVariable_7 rfl (by decide) rfl ?_
  refine z_aload_n C (i := 0) d_P_readVariable_8 rfl rfl ?_
  refine z_getS C (ci := 4) (j := 0) (F := cf_P) (by decide) rfl rfl in_P (by decide) fl_P_45 rfl d_P_readVariable_9 ?_
  refine z_iload_n C (i := 1) d_P_readVariable_12 rfl rfl ?_
  refine z_callVNi ⟨xN_ok, hG.1⟩ zT_good C (t_V_has hG hw) wn_V_has nl_P_117 (by decide) rfl rfl (by decide) (by decide) pl_V_has rfl rfl (Nat.le_of_ble_eq_true rfl) d_P_readVariable_13 (fun r1 h2 hw => ?_)
  refine z_if_ne C (tgt := 32) d_P_readVariable_16 (by decide) (fun q => ?_) (fun q => ?_)
  · replace hw := hw.1 q
    refine z_aload_n C (i := 0) d_P_readVariable_32 rfl rfl ?_
    refine z_getS C (ci := 4) (j := 7) (F := cf_P) (by decide) rfl rfl in_P (by decide) fl_P_36 rfl d_P_readVariable_33 ?_
    refine z_aload_n C (i := 0) d_P_readVariable_36 rfl rfl ?_
    refine z_getS C (ci := 4) (j := 0) (F := cf_P) (by decide) rfl rfl in_P (by decide) fl_P_45 rfl d_P_readVariable_37 ?_
    refine z_iload_n C (i := 1) d_P_readVariable_40 rfl rfl ?_
    refine z_callVNi ⟨xN_ok, hG.1⟩ zT_good C (t_V_lowOf hG hw) wn_V_lowOf nl_P_123 (by decide) rfl rfl (by decide) (by decide) pl_V_lowOf rfl rfl (Nat.le_of_ble_eq_true rfl) d_P_readVariable_41 (fun r3 h4 hw => ?_)
    refine z_i2l C d_P_readVariable_44 ?_
    refine z_aload_n C (i := 0) d_P_readVariable_45 rfl rfl ?_
    refine z_getS C (ci := 4) (j := 0) (F := cf_P) (by decide) rfl rfl in_P (by decide) fl_P_45 rfl d_P_readVariable_46 ?_
    refine z_iload_n C (i := 1) d_P_readVariable_49 rfl rfl ?_
    refine z_callVNi ⟨xN_ok, hG.1⟩ zT_good C (t_V_highOf hG hw) wn_V_highOf nl_P_127 (by decide) rfl rfl (by decide) (by decide) pl_V_highOf rfl rfl (Nat.le_of_ble_eq_true rfl) d_P_readVariable_50 (fun r5 h6 hw => ?_)
    refine z_i2l C d_P_readVariable_53 ?_
    refine z_callVNv ⟨xN_ok, hG.1⟩ zT_good C (t_N_put hG hw) wn_N_put nl_P_96 (by decide) rfl rfl (by decide) (by decide) pl_N_put rfl rfl (Nat.le_of_ble_eq_true rfl) d_P_readVariable_54 (fun h8 hw => ?_)
    refine z_aload_n C (i := 0) d_P_readVariable_57 rfl rfl ?_
    refine z_iconst C (v := 3) d_P_readVariable_58 (by decide) ?_
    refine z_aload_n C (i := 0) d_P_readVariable_59 rfl rfl ?_
    refine z_getS C (ci := 4) (j := 1) (F := cf_P) (by decide) rfl rfl in_P (by decide) fl_P_54 rfl d_P_readVariable_60 ?_
    refine z_getIN C (ci := 5) (j := 3) (F := cf_K) (by decide) rfl rfl in_K (by decide) fn_P_100 rfl d_P_readVariable_63 ?_
    refine z_iconst C (v := 0) d_P_readVariable_66 (by decide) ?_
    refine z_iload_n C (i := 1) d_P_readVariable_67 rfl rfl ?_
    refine z_callVv ⟨xN_ok, hG.1⟩ zT_good C (t_P_addPart hG hw) ol_P_103 (by decide) rfl rfl (by decide) (by decide) pl_P_addPart rfl rfl (Nat.le_of_ble_eq_true rfl) d_P_readVariable_68 (fun h10 hw => ?_)
    exact z_vret C hr d_P_readVariable_71 hw
  · replace hw := hw.2 q
    refine z_aload_n C (i := 0) d_P_readVariable_19 rfl rfl ?_
    refine z_iconst C (v := 1) d_P_readVariable_20 (by decide) ?_
    refine z_aload_n C (i := 0) d_P_readVariable_21 rfl rfl ?_
    refine z_getS C (ci := 4) (j := 1) (F := cf_P) (by decide) rfl rfl in_P (by decide) fl_P_54 rfl d_P_readVariable_22 ?_
    refine z_getIN C (ci := 5) (j := 3) (F := cf_K) (by decide) rfl rfl in_K (by decide) fn_P_100 rfl d_P_readVariable_25 ?_
    refine z_callVv ⟨xN_ok, hG.1⟩ zT_good C (t_P_blame hG hw) ol_P_114 (by decide) rfl rfl (by decide) (by decide) pl_P_blame rfl rfl (Nat.le_of_ble_eq_true rfl) d_P_readVariable_28 (fun h12 hw => ?_)
    exact z_vret C hr d_P_readVariable_31 hw
theorem d_P_readOperand_0 : decode prog_2_method_5_code 0 = .ok (.aload_n 0, 1) := by decide +kernel
theorem d_P_readOperand_1 : decode prog_2_method_5_code 1 = .ok (.getfield 54, 3) := by decide +kernel
theorem d_P_readOperand_4 : decode prog_2_method_5_code 4 = .ok (.getfield 90, 3) := by decide +kernel
theorem d_P_readOperand_7 : decode prog_2_method_5_code 7 = .ok (.tableswitch (196) (2) (25) #[109, 149, 166, 196, 196, 196, 196, 196, 156, 196, 196, 196, 196, 196, 196, 196, 196, 196, 166, 196, 196, 181, 181, 181], 109) := by decide +kernel
theorem d_P_readOperand_116 : decode prog_2_method_5_code 116 = .ok (.aload_n 0, 1) := by decide +kernel
theorem d_P_readOperand_117 : decode prog_2_method_5_code 117 = .ok (.getfield 36, 3) := by decide +kernel
theorem d_P_readOperand_120 : decode prog_2_method_5_code 120 = .ok (.aload_n 0, 1) := by decide +kernel
theorem d_P_readOperand_121 : decode prog_2_method_5_code 121 = .ok (.getfield 54, 3) := by decide +kernel
theorem d_P_readOperand_124 : decode prog_2_method_5_code 124 = .ok (.getfield 93, 3) := by decide +kernel
theorem d_P_readOperand_127 : decode prog_2_method_5_code 127 = .ok (.i2l, 1) := by decide +kernel
theorem d_P_readOperand_128 : decode prog_2_method_5_code 128 = .ok (.aload_n 0, 1) := by decide +kernel
theorem d_P_readOperand_129 : decode prog_2_method_5_code 129 = .ok (.getfield 54, 3) := by decide +kernel
theorem d_P_readOperand_132 : decode prog_2_method_5_code 132 = .ok (.getfield 93, 3) := by decide +kernel
theorem d_P_readOperand_135 : decode prog_2_method_5_code 135 = .ok (.i2l, 1) := by decide +kernel
theorem d_P_readOperand_136 : decode prog_2_method_5_code 136 = .ok (.invokevirtual 96, 3) := by decide +kernel
theorem d_P_readOperand_139 : decode prog_2_method_5_code 139 = .ok (.aload_n 0, 1) := by decide +kernel
theorem d_P_readOperand_140 : decode prog_2_method_5_code 140 = .ok (.iconst 2, 1) := by decide +kernel
theorem d_P_readOperand_141 : decode prog_2_method_5_code 141 = .ok (.aload_n 0, 1) := by decide +kernel
theorem d_P_readOperand_142 : decode prog_2_method_5_code 142 = .ok (.getfield 54, 3) := by decide +kernel
theorem d_P_readOperand_145 : decode prog_2_method_5_code 145 = .ok (.getfield 100, 3) := by decide +kernel
theorem d_P_readOperand_148 : decode prog_2_method_5_code 148 = .ok (.iconst 0, 1) := by decide +kernel
theorem d_P_readOperand_149 : decode prog_2_method_5_code 149 = .ok (.iconst (-1), 1) := by decide +kernel
theorem d_P_readOperand_150 : decode prog_2_method_5_code 150 = .ok (.invokevirtual 103, 3) := by decide +kernel
theorem d_P_readOperand_153 : decode prog_2_method_5_code 153 = .ok (.goto (62), 3) := by decide +kernel
theorem d_P_readOperand_156 : decode prog_2_method_5_code 156 = .ok (.aload_n 0, 1) := by decide +kernel
theorem d_P_readOperand_157 : decode prog_2_method_5_code 157 = .ok (.invokevirtual 107, 3) := by decide +kernel
theorem d_P_readOperand_160 : decode prog_2_method_5_code 160 = .ok (.goto (55), 3) := by decide +kernel
theorem d_P_readOperand_163 : decode prog_2_method_5_code 163 = .ok (.aload_n 0, 1) := by decide +kernel
theorem d_P_readOperand_164 : decode prog_2_method_5_code 164 = .ok (.bipush (26), 2) := by decide +kernel
theorem d_P_readOperand_166 : decode prog_2_method_5_code 166 = .ok (.iconst 0, 1) := by decide +kernel
theorem d_P_readOperand_167 : decode prog_2_method_5_code 167 = .ok (.invokevirtual 110, 3) := by decide +kernel
theorem d_P_readOperand_170 : decode prog_2_method_5_code 170 = .ok (.goto (45), 3) := by decide +kernel
theorem d_P_readOperand_173 : decode prog_2_method_5_code 173 = .ok (.aload_n 0, 1) := by decide +kernel
theorem d_P_readOperand_174 : decode prog_2_method_5_code 174 = .ok (.aload_n 0, 1) := by decide +kernel
theorem d_P_readOperand_175 : decode prog_2_method_5_code 175 = .ok (.getfield 54, 3) := by decide +kernel
theorem d_P_readOperand_178 : decode prog_2_method_5_code 178 = .ok (.getfield 90, 3) := by decide +kernel
theorem d_P_readOperand_181 : decode prog_2_method_5_code 181 = .ok (.iconst 0, 1) := by decide +kernel
theorem d_P_readOperand_182 : decode prog_2_method_5_code 182 = .ok (.invokevirtual 110, 3) := by decide +kernel
theorem d_P_readOperand_185 : decode prog_2_method_5_code 185 = .ok (.goto (30), 3) := by decide +kernel
theorem d_P_readOperand_188 : decode prog_2_method_5_code 188 = .ok (.aload_n 0, 1) := by decide +kernel
theorem d_P_readOperand_189 : decode prog_2_method_5_code 189 = .ok (.aload_n 0, 1) := by decide +kernel
theorem d_P_readOperand_190 : decode prog_2_method_5_code 190 = .ok (.getfield 54, 3) := by decide +kernel
theorem d_P_readOperand_193 : decode prog_2_method_5_code 193 = .ok (.getfield 90, 3) := by decide +kernel
theorem d_P_readOperand_196 : decode prog_2_method_5_code 196 = .ok (.iconst 1, 1) := by decide +kernel
theorem d_P_readOperand_197 : decode prog_2_method_5_code 197 = .ok (.invokevirtual 110, 3) := by decide +kernel
theorem d_P_readOperand_200 : decode prog_2_method_5_code 200 = .ok (.goto (15), 3) := by decide +kernel
theorem d_P_readOperand_203 : decode prog_2_method_5_code 203 = .ok (.aload_n 0, 1) := by decide +kernel
theorem d_P_readOperand_204 : decode prog_2_method_5_code 204 = .ok (.iconst 1, 1) := by decide +kernel
theorem d_P_readOperand_205 : decode prog_2_method_5_code 205 = .ok (.aload_n 0, 1) := by decide +kernel
theorem d_P_readOperand_206 : decode prog_2_method_5_code 206 = .ok (.getfield 54, 3) := by decide +kernel
theorem d_P_readOperand_209 : decode prog_2_method_5_code 209 = .ok (.getfield 100, 3) := by decide +kernel
theorem d_P_readOperand_212 : decode prog_2_method_5_code 212 = .ok (.invokevirtual 114, 3) := by decide +kernel
theorem d_P_readOperand_215 : decode prog_2_method_5_code 215 = .ok (.return_, 1) := by decide +kernel
def b_P_readOperand_215 (post : zH → Prop) (h : zH) : Prop := post h
def b_P_readOperand_173 (post : zH → Prop) (h : zH) : Prop := wp_P_nest ((h.1 30 2)) (0) h (fun (h2 : zH) => b_P_readOperand_215 post  h2)
def b_P_readOperand_188 (post : zH → Prop) (h : zH) : Prop := wp_P_nest ((h.1 30 2)) (1) h (fun (h4 : zH) => b_P_readOperand_215 post  h4)
def b_P_readOperand_203 (post : zH → Prop) (h : zH) : Prop := wp_P_blame (1) ((h.1 30 3)) h (fun (h6 : zH) => b_P_readOperand_215 post  h6)
def wp_P_readOperand (h : zH) (post : zH → Prop) : Prop := (((h.1 30 2) = 2 → wp_N_put 38 (((h.1 30 4) : Int32).toInt64) (((h.1 30 4) : Int32).toInt64) h (fun (h8 : zH) => wp_P_addPart (2) ((h8.1 30 3)) (0) ((-1)) h8 (fun (h10 : zH) => b_P_readOperand_215 post  h10))) ∧ (¬ (h.1 30 2) = 2 → (((h.1 30 2) = 3 → wp_P_readVariable  h (fun (h12 : zH) => b_P_readOperand_215 post  h12)) ∧ (¬ (h.1 30 2) = 3 → (((h.1 30 2) = 4 → b_P_readOperand_173 post  h) ∧ (¬ (h.1 30 2) = 4 → (((h.1 30 2) = 5 → b_P_readOperand_203 post  h) ∧ (¬ (h.1 30 2) = 5 → (((h.1 30 2) = 6 → b_P_readOperand_203 post  h) ∧ (¬ (h.1 30 2) = 6 → (((h.1 30 2) = 7 → b_P_readOperand_203 post  h) ∧ (¬ (h.1 30 2) = 7 → (((h.1 30 2) = 8 → b_P_readOperand_203 post  h) ∧ (¬ (h.1 30 2) = 8 → (((h.1 30 2) = 9 → b_P_readOperand_203 post  h) ∧ (¬ (h.1 30 2) = 9 → (((h.1 30 2) = 10 → wp_P_nest (26) (0) h (fun (h14 : zH) => b_P_readOperand_215 post  h14)) ∧ (¬ (h.1 30 2) = 10 → (((h.1 30 2) = 11 → b_P_readOperand_203 post  h) ∧ (¬ (h.1 30 2) = 11 → (((h.1 30 2) = 12 → b_P_readOperand_203 post  h) ∧ (¬ (h.1 30 2) = 12 → (((h.1 30 2) = 13 → b_P_readOperand_203 post  h) ∧ (¬ (h.1 30 2) = 13 → (((h.1 30 2) = 14 → b_P_readOperand_203 post  h) ∧ (¬ (h.1 30 2) = 14 → (((h.1 30 2) = 15 → b_P_readOperand_203 post  h) ∧ (¬ (h.1 30 2) = 15 → (((h.1 30 2) = 16 → b_P_readOperand_203 post  h) ∧ (¬ (h.1 30 2) = 16 → (((h.1 30 2) = 17 → b_P_readOperand_203 post  h) ∧ (¬ (h.1 30 2) = 17 → (((h.1 30 2) = 18 → b_P_readOperand_203 post  h) ∧ (¬ (h.1 30 2) = 18 → (((h.1 30 2) = 19 → b_P_readOperand_203 post  h) ∧ (¬ (h.1 30 2) = 19 → (((h.1 30 2) = 20 → b_P_readOperand_173 post  h) ∧ (¬ (h.1 30 2) = 20 → (((h.1 30 2) = 21 → b_P_readOperand_203 post  h) ∧ (¬ (h.1 30 2) = 21 → (((h.1 30 2) = 22 → b_P_readOperand_203 post  h) ∧ (¬ (h.1 30 2) = 22 → (((h.1 30 2) = 23 → b_P_readOperand_188 post  h) ∧ (¬ (h.1 30 2) = 23 → (((h.1 30 2) = 24 → b_P_readOperand_188 post  h) ∧ (¬ (h.1 30 2) = 24 → (((h.1 30 2) = 25 → b_P_readOperand_188 post  h) ∧ (¬ (h.1 30 2) = 25 → b_P_readOperand_203 post  h))))))))))))))))))))))))))))))))))))))))))))))))
set_option maxRecDepth 100000 in
set_option maxHeartbeats 4000000 in
theorem w_P_readOperand_215 {l : Launch} {E : zE} {G : (Nat → Prop) → State → Prop} {p : Program} {e : Env} {s : State} {m : MethodId} {args : Array Value} {below : List Frame} {meth : Method} {c : Code} {A : Nat → Prop} {post : zH → Prop} (hG : xGG E G) (C : zCx p s m args meth c E G A 4 91 prog_2_method_5_code 1 cn_P) (hr : meth.sig.returnType = none)  (h : zH) (hw : b_P_readOperand_215 post  h) : zGo p l e s m args below meth c E A 4 91 1 (zPv post) h 215 [none] [] := by
  unfold b_P_readOperand_215 at hw
  exact z_vret C hr d_P_readOperand_215 hw
set_option maxRecDepth 100000 in
set_option maxHeartbeats 4000000 in
theorem w_P_readOperand_173 {l : Launch} {E : zE} {G : (Nat → Prop) → State → Prop} {p : Program} {e : Env} {s : State} {m : MethodId} {args : Array Value} {below : List Frame} {meth : Method} {c : Code} {A : Nat → Prop} {post : zH → Prop} (hG : xGG E G) (C : zCx p s m args meth c E G A 4 91 prog_2_method_5_code 1 cn_P) (hr : meth.sig.returnType = none)  (h : zH) (hw : b_P_readOperand_173 post  h) : zGo p l e s m args below meth c E A 4 91 1 (zPv post) h 173 [some (.ref (E.2.2.1 29))] [] := by
  unfold b_P_readOperand_173 at hw
  refine z_aload_n C (i := 0) d_P_readOperand_173 rfl rfl ?_
  refine z_aload_n C (i := 0) d_P_readOperand_174 rfl rfl ?_
  refine z_getS C (ci := 4) (j := 1) (F := cf_P) (by decide) rfl rfl in_P (by decide) fl_P_54 rfl d_P_readOperand_175 ?_
  refine z_getIN C (ci := 5) (j := 2) (F := cf_K) (by decide) rfl rfl in_K (by decide) fn_P_90 rfl d_P_readOperand_178 ?_
  refine z_iconst C (v := 0) d_P_readOperand_181 (by decide) ?_
  refine z_callVv ⟨xN_ok, hG.1⟩ zT_good C (t_P_nest hG hw) ol_P_110 (by decide) rfl rfl (by decide) (by decide) pl_P_nest rfl rfl (Nat.le_of_ble_eq_true rfl) d_P_readOperand_182 (fun h2 hw => ?_)
  refine z_goto C (tgt := 215) d_P_readOperand_185 (by decide) ?_
  refine z_le (lv2 := [none]) (trivial) ?_
  exact w_P_readOperand_215 hG C hr  _ hw
set_option maxRecDepth 100000 in
set_option maxHeartbeats 4000000 in
theorem w_P_readOperand_188 {l : Launch} {E : zE} {G : (Nat → Prop) → State → Prop} {p : Program} {e : Env} {s : State} {m : MethodId} {args : Array Value} {below : List Frame} {meth : Method} {c : Code} {A : Nat → Prop} {post : zH → Prop} (hG : xGG E G) (C : zCx p s m args meth c E G A 4 91 prog_2_method_5_code 1 cn_P) (hr : meth.sig.returnType = none)  (h : zH) (hw : b_P_readOperand_188 post  h) : zGo p l e s m args below meth c E A 4 91 1 (zPv post) h 188 [some (.ref (E.2.2.1 29))] [] := by
  unfold b_P_readOperand_188 at hw
  refine z_aload_n C (i := 0) d_P_readOperand_188 rfl rfl ?_
  refine z_aload_n C (i := 0) d_P_readOperand_189 rfl rfl ?_
  refine z_getS C (ci := 4) (j := 1) (F := cf_P) (by decide) rfl rfl in_P (by decide) fl_P_54 rfl d_P_readOperand_190 ?_
  refine z_getIN C (ci := 5) (j := 2) (F := cf_K) (by decide) rfl rfl in_K (by decide) fn_P_90 rfl d_P_readOperand_193 ?_
  refine z_iconst C (v := 1) d_P_readOperand_196 (by decide) ?_
  refine z_callVv ⟨xN_ok, hG.1⟩ zT_good C (t_P_nest hG hw) ol_P_110 (by decide) rfl rfl (by decide) (by decide) pl_P_nest rfl rfl (Nat.le_of_ble_eq_true rfl) d_P_readOperand_197 (fun h4 hw => ?_)
  refine z_goto C (tgt := 215) d_P_readOperand_200 (by decide) ?_
  refine z_le (lv2 := [none]) (trivial) ?_
  exact w_P_readOperand_215 hG C hr  _ hw
set_option maxRecDepth 100000 in
set_option maxHeartbeats 4000000 in
theorem w_P_readOperand_203 {l : Launch} {E : zE} {G : (Nat → Prop) → State → Prop} {p : Program} {e : Env} {s : State} {m : MethodId} {args : Array Value} {below : List Frame} {meth : Method} {c : Code} {A : Nat → Prop} {post : zH → Prop} (hG : xGG E G) (C : zCx p s m args meth c E G A 4 91 prog_2_method_5_code 1 cn_P) (hr : meth.sig.returnType = none)  (h : zH) (hw : b_P_readOperand_203 post  h) : zGo p l e s m args below meth c E A 4 91 1 (zPv post) h 203 [some (.ref (E.2.2.1 29))] [] := by
  unfold b_P_readOperand_203 at hw
  refine z_aload_n C (i := 0) d_P_readOperand_203 rfl rfl ?_
  refine z_iconst C (v := 1) d_P_readOperand_204 (by decide) ?_
  refine z_aload_n C (i := 0) d_P_readOperand_205 rfl rfl ?_
  refine z_getS C (ci := 4) (j := 1) (F := cf_P) (by decide) rfl rfl in_P (by decide) fl_P_54 rfl d_P_readOperand_206 ?_
  refine z_getIN C (ci := 5) (j := 3) (F := cf_K) (by decide) rfl rfl in_K (by decide) fn_P_100 rfl d_P_readOperand_209 ?_
  refine z_callVv ⟨xN_ok, hG.1⟩ zT_good C (t_P_blame hG hw) ol_P_114 (by decide) rfl rfl (by decide) (by decide) pl_P_blame rfl rfl (Nat.le_of_ble_eq_true rfl) d_P_readOperand_212 (fun h6 hw => ?_)
  refine z_le (lv2 := [none]) (trivial) ?_
  exact w_P_readOperand_215 hG C hr  _ hw
set_option maxRecDepth 100000 in
set_option maxHeartbeats 4000000 in
theorem t_P_readOperand {l : Launch} {E : zE} {G : (Nat → Prop) → State → Prop} (hG : xGG E G) {h : zH} {post : zH → Prop} (hw : wp_P_readOperand  h post) : Ct l xX E xcl xN zT G 4 91 y_P_readOperand prog_2_method_5_code 1 none [.ref (E.2.2.1 29)] h (zPv post) := by
  unfold wp_P_readOperand at hw
  refine Ct.of (by decide) (Nat.le_of_ble_eq_true rfl) ?_
  intro p e s m below meth c A C hr
  refine z_lv (lv2 := [some (.ref (E.2.2.1 29))]) rfl ?_
  refine z_aload_n C (i := 0) d_P_readOperand_0 rfl rfl ?_
  refine z_getS C (ci := 4) (j := 1) (F := cf_P) (by decide) rfl rfl in_P (by decide) fl_P_54 rfl d_P_readOperand_1 ?_
  refine z_getIN C (ci := 5) (j := 2) (F := cf_K) (by decide) rfl rfl in_K (by decide) fn_P_90 rfl d_P_readOperand_4 ?_
  refine z_tcase C (off := 109) (tgt := 116) (2 : Int32) d_P_readOperand_7 (by decide) (by decide) rfl (by decide) (fun q0 => ?_) (fun q0 => ?_)
  · replace hw := hw.1 q0
    refine z_aload_n C (i := 0) d_P_readOperand_116 rfl rfl ?_
    refine z_getS C (ci := 4) (j := 7) (F := cf_P) (by decide) rfl rfl in_P (by decide) fl_P_36 rfl d_P_readOperand_117 ?_
    refine z_aload_n C (i := 0) d_P_readOperand_120 rfl rfl ?_
    refine z_getS C (ci := 4) (j := 1) (F := cf_P) (by decide) rfl rfl in_P (by decide) fl_P_54 rfl d_P_readOperand_121 ?_
    refine z_getIN C (ci := 5) (j := 4) (F := cf_K) (by decide) rfl rfl in_K (by decide) fn_P_93 rfl d_P_readOperand_124 ?_
    refine z_i2l C d_P_readOperand_127 ?_
    refine z_aload_n C (i := 0) d_P_readOperand_128 rfl rfl ?_
    refine z_getS C (ci := 4) (j := 1) (F := cf_P) (by decide) rfl rfl in_P (by decide) fl_P_54 rfl d_P_readOperand_129 ?_
    refine z_getIN C (ci := 5) (j := 4) (F := cf_K) (by decide) rfl rfl in_K (by decide) fn_P_93 rfl d_P_readOperand_132 ?_
    refine z_i2l C d_P_readOperand_135 ?_
    refine z_callVNv ⟨xN_ok, hG.1⟩ zT_good C (t_N_put hG hw) wn_N_put nl_P_96 (by decide) rfl rfl (by decide) (by decide) pl_N_put rfl rfl (Nat.le_of_ble_eq_true rfl) d_P_readOperand_136 (fun h8 hw => ?_)
    refine z_aload_n C (i := 0) d_P_readOperand_139 rfl rfl ?_
    refine z_iconst C (v := 2) d_P_readOperand_140 (by decide) ?_
    refine z_aload_n C (i := 0) d_P_readOperand_141 rfl rfl ?_
    refine z_getS C (ci := 4) (j := 1) (F := cf_P) (by decide) rfl rfl in_P (by decide) fl_P_54 rfl d_P_readOperand_142 ?_
    refine z_getIN C (ci := 5) (j := 3) (F := cf_K) (by decide) rfl rfl in_K (by decide) fn_P_100 rfl d_P_readOperand_145 ?_
    refine z_iconst C (v := 0) d_P_readOperand_148 (by decide) ?_
    refine z_iconst C (v := (-1)) d_P_readOperand_149 (by decide) ?_
    refine z_callVv ⟨xN_ok, hG.1⟩ zT_good C (t_P_addPart hG hw) ol_P_103 (by decide) rfl rfl (by decide) (by decide) pl_P_addPart rfl rfl (Nat.le_of_ble_eq_true rfl) d_P_readOperand_150 (fun h10 hw => ?_)
    refine z_goto C (tgt := 215) d_P_readOperand_153 (by decide) ?_
    refine z_le (lv2 := [none]) (trivial) ?_
    exact w_P_readOperand_215 hG C hr  _ hw
  replace hw := hw.2 q0
  refine z_tcase C (off := 149) (tgt := 156) (3 : Int32) d_P_readOperand_7 (by decide) (by decide) rfl (by decide) (fun q1 => ?_) (fun q1 => ?_)
  · replace hw := hw.1 q1
    refine z_aload_n C (i := 0) d_P_readOperand_156 rfl rfl ?_
    refine z_callVv ⟨xN_ok, hG.1⟩ zT_good C (t_P_readVariable hG hw) ol_P_107 (by decide) rfl rfl (by decide) (by decide) pl_P_readVariable rfl rfl (Nat.le_of_ble_eq_true rfl) d_P_readOperand_157 (fun h12 hw => ?_)
    refine z_goto C (tgt := 215) d_P_readOperand_160 (by decide) ?_
    refine z_le (lv2 := [none]) (trivial) ?_
    exact w_P_readOperand_215 hG C hr  _ hw
  replace hw := hw.2 q1
  refine z_tcase C (off := 166) (tgt := 173) (4 : Int32) d_P_readOperand_7 (by decide) (by decide) rfl (by decide) (fun q2 => ?_) (fun q2 => ?_)
  · replace hw := hw.1 q2
    refine z_le (lv2 := [some (.ref (E.2.2.1 29))]) (⟨rfl, trivial⟩) ?_
    exact w_P_readOperand_173 hG C hr  _ hw
  replace hw := hw.2 q2
  refine z_tcase C (off := 196) (tgt := 203) (5 : Int32) d_P_readOperand_7 (by decide) (by decide) rfl (by decide) (fun q3 => ?_) (fun q3 => ?_)
  · replace hw := hw.1 q3
    refine z_le (lv2 := [some (.ref (E.2.2.1 29))]) (⟨rfl, trivial⟩) ?_
    exact w_P_readOperand_203 hG C hr  _ hw
  replace hw := hw.2 q3
  refine z_tcase C (off := 196) (tgt := 203) (6 : Int32) d_P_readOperand_7 (by decide) (by decide) rfl (by decide) (fun q4 => ?_) (fun q4 => ?_)
  · replace hw := hw.1 q4
    refine z_le (lv2 := [some (.ref (E.2.2.1 29))]) (⟨rfl, trivial⟩) ?_
    exact w_P_readOperand_203 hG C hr  _ hw
  replace hw := hw.2 q4
  refine z_tcase C (off := 196) (tgt := 203) (7 : Int32) d_P_readOperand_7 (by decide) (by decide) rfl (by decide) (fun q5 => ?_) (fun q5 => ?_)
  · replace hw := hw.1 q5
    refine z_le (lv2 := [some (.ref (E.2.2.1 29))]) (⟨rfl, trivial⟩) ?_
    exact w_P_readOperand_203 hG C hr  _ hw
  replace hw := hw.2 q5
  refine z_tcase C (off := 196) (tgt := 203) (8 : Int32) d_P_readOperand_7 (by decide) (by decide) rfl (by decide) (fun q6 => ?_) (fun q6 => ?_)
  · replace hw := hw.1 q6
    refine z_le (lv2 := [some (.ref (E.2.2.1 29))]) (⟨rfl, trivial⟩) ?_
    exact w_P_readOperand_203 hG C hr  _ hw
  replace hw := hw.2 q6
  refine z_tcase C (off := 196) (tgt := 203) (9 : Int32) d_P_readOperand_7 (by decide) (by decide) rfl (by decide) (fun q7 => ?_) (fun q7 => ?_)
  · replace hw := hw.1 q7
    refine z_le (lv2 := [some (.ref (E.2.2.1 29))]) (⟨rfl, trivial⟩) ?_
    exact w_P_readOperand_203 hG C hr  _ hw
  replace hw := hw.2 q7
  refine z_tcase C (off := 156) (tgt := 163) (10 : Int32) d_P_readOperand_7 (by decide) (by decide) rfl (by decide) (fun q8 => ?_) (fun q8 => ?_)
  · replace hw := hw.1 q8
    refine z_aload_n C (i := 0) d_P_readOperand_163 rfl rfl ?_
    refine z_bipush C (v := 26) d_P_readOperand_164 (by decide) ?_
    refine z_iconst C (v := 0) d_P_readOperand_166 (by decide) ?_
    refine z_callVv ⟨xN_ok, hG.1⟩ zT_good C (t_P_nest hG hw) ol_P_110 (by decide) rfl rfl (by decide) (by decide) pl_P_nest rfl rfl (Nat.le_of_ble_eq_true rfl) d_P_readOperand_167 (fun h14 hw => ?_)
    refine z_goto C (tgt := 215) d_P_readOperand_170 (by decide) ?_
    refine z_le (lv2 := [none]) (trivial) ?_
    exact w_P_readOperand_215 hG C hr  _ hw
  replace hw := hw.2 q8
  refine z_tcase C (off := 196) (tgt := 203) (11 : Int32) d_P_readOperand_7 (by decide) (by decide) rfl (by decide) (fun q9 => ?_) (fun q9 => ?_)
  · replace hw := hw.1 q9
    refine z_le (lv2 := [some (.ref (E.2.2.1 29))]) (⟨rfl, trivial⟩) ?_
    exact w_P_readOperand_203 hG C hr  _ hw
  replace hw := hw.2 q9
  refine z_tcase C (off := 196) (tgt := 203) (12 : Int32) d_P_readOperand_7 (by decide) (by decide) rfl (by decide) (fun q10 => ?_) (fun q10 => ?_)
  · replace hw := hw.1 q10
    refine z_le (lv2 := [some (.ref (E.2.2.1 29))]) (⟨rfl, trivial⟩) ?_
    exact w_P_readOperand_203 hG C hr  _ hw
  replace hw := hw.2 q10
  refine z_tcase C (off := 196) (tgt := 203) (13 : Int32) d_P_readOperand_7 (by decide) (by decide) rfl (by decide) (fun q11 => ?_) (fun q11 => ?_)
  · replace hw := hw.1 q11
    refine z_le (lv2 := [some (.ref (E.2.2.1 29))]) (⟨rfl, trivial⟩) ?_
    exact w_P_readOperand_203 hG C hr  _ hw
  replace hw := hw.2 q11
  refine z_tcase C (off := 196) (tgt := 203) (14 : Int32) d_P_readOperand_7 (by decide) (by decide) rfl (by decide) (fun q12 => ?_) (fun q12 => ?_)
  · replace hw := hw.1 q12
    refine z_le (lv2 := [some (.ref (E.2.2.1 29))]) (⟨rfl, trivial⟩) ?_
    exact w_P_readOperand_203 hG C hr  _ hw
  replace hw := hw.2 q12
  refine z_tcase C (off := 196) (tgt := 203) (15 : Int32) d_P_readOperand_7 (by decide) (by decide) rfl (by decide) (fun q13 => ?_) (fun q13 => ?_)
  · replace hw := hw.1 q13
    refine z_le (lv2 := [some (.ref (E.2.2.1 29))]) (⟨rfl, trivial⟩) ?_
    exact w_P_readOperand_203 hG C hr  _ hw
  replace hw := hw.2 q13
  refine z_tcase C (off := 196) (tgt := 203) (16 : Int32) d_P_readOperand_7 (by decide) (by decide) rfl (by decide) (fun q14 => ?_) (fun q14 => ?_)
  · replace hw := hw.1 q14
    refine z_le (lv2 := [some (.ref (E.2.2.1 29))]) (⟨rfl, trivial⟩) ?_
    exact w_P_readOperand_203 hG C hr  _ hw
  replace hw := hw.2 q14
  refine z_tcase C (off := 196) (tgt := 203) (17 : Int32) d_P_readOperand_7 (by decide) (by decide) rfl (by decide) (fun q15 => ?_) (fun q15 => ?_)
  · replace hw := hw.1 q15
    refine z_le (lv2 := [some (.ref (E.2.2.1 29))]) (⟨rfl, trivial⟩) ?_
    exact w_P_readOperand_203 hG C hr  _ hw
  replace hw := hw.2 q15
  refine z_tcase C (off := 196) (tgt := 203) (18 : Int32) d_P_readOperand_7 (by decide) (by decide) rfl (by decide) (fun q16 => ?_) (fun q16 => ?_)
  · replace hw := hw.1 q16
    refine z_le (lv2 := [some (.ref (E.2.2.1 29))]) (⟨rfl, trivial⟩) ?_
    exact w_P_readOperand_203 hG C hr  _ hw
  replace hw := hw.2 q16
  refine z_tcase C (off := 196) (tgt := 203) (19 : Int32) d_P_readOperand_7 (by decide) (by decide) rfl (by decide) (fun q17 => ?_) (fun q17 => ?_)
  · replace hw := hw.1 q17
    refine z_le (lv2 := [some (.ref (E.2.2.1 29))]) (⟨rfl, trivial⟩) ?_
    exact w_P_readOperand_203 hG C hr  _ hw
  replace hw := hw.2 q17
  refine z_tcase C (off := 166) (tgt := 173) (20 : Int32) d_P_readOperand_7 (by decide) (by decide) rfl (by decide) (fun q18 => ?_) (fun q18 => ?_)
  · replace hw := hw.1 q18
    refine z_le (lv2 := [some (.ref (E.2.2.1 29))]) (⟨rfl, trivial⟩) ?_
    exact w_P_readOperand_173 hG C hr  _ hw
  replace hw := hw.2 q18
  refine z_tcase C (off := 196) (tgt := 203) (21 : Int32) d_P_readOperand_7 (by decide) (by decide) rfl (by decide) (fun q19 => ?_) (fun q19 => ?_)
  · replace hw := hw.1 q19
    refine z_le (lv2 := [some (.ref (E.2.2.1 29))]) (⟨rfl, trivial⟩) ?_
    exact w_P_readOperand_203 hG C hr  _ hw
  replace hw := hw.2 q19
  refine z_tcase C (off := 196) (tgt := 203) (22 : Int32) d_P_readOperand_7 (by decide) (by decide) rfl (by decide) (fun q20 => ?_) (fun q20 => ?_)
  · replace hw := hw.1 q20
    refine z_le (lv2 := [some (.ref (E.2.2.1 29))]) (⟨rfl, trivial⟩) ?_
    exact w_P_readOperand_203 hG C hr  _ hw
  replace hw := hw.2 q20
  refine z_tcase C (off := 181) (tgt := 188) (23 : Int32) d_P_readOperand_7 (by decide) (by decide) rfl (by decide) (fun q21 => ?_) (fun q21 => ?_)
  · replace hw := hw.1 q21
    refine z_le (lv2 := [some (.ref (E.2.2.1 29))]) (⟨rfl, trivial⟩) ?_
    exact w_P_readOperand_188 hG C hr  _ hw
  replace hw := hw.2 q21
  refine z_tcase C (off := 181) (tgt := 188) (24 : Int32) d_P_readOperand_7 (by decide) (by decide) rfl (by decide) (fun q22 => ?_) (fun q22 => ?_)
  · replace hw := hw.1 q22
    refine z_le (lv2 := [some (.ref (E.2.2.1 29))]) (⟨rfl, trivial⟩) ?_
    exact w_P_readOperand_188 hG C hr  _ hw
  replace hw := hw.2 q22
  refine z_tcase C (off := 181) (tgt := 188) (25 : Int32) d_P_readOperand_7 (by decide) (by decide) rfl (by decide) (fun q23 => ?_) (fun q23 => ?_)
  · replace hw := hw.1 q23
    refine z_le (lv2 := [some (.ref (E.2.2.1 29))]) (⟨rfl, trivial⟩) ?_
    exact w_P_readOperand_188 hG C hr  _ hw
  replace hw := hw.2 q23
  refine z_tabOut C (tgt := 203) d_P_readOperand_7 (by have e0 := lv_neT q0 (a := 2) rfl; have e1 := lv_neT q1 (a := 3) rfl; have e2 := lv_neT q2 (a := 4) rfl; have e3 := lv_neT q3 (a := 5) rfl; have e4 := lv_neT q4 (a := 6) rfl; have e5 := lv_neT q5 (a := 7) rfl; have e6 := lv_neT q6 (a := 8) rfl; have e7 := lv_neT q7 (a := 9) rfl; have e8 := lv_neT q8 (a := 10) rfl; have e9 := lv_neT q9 (a := 11) rfl; have e10 := lv_neT q10 (a := 12) rfl; have e11 := lv_neT q11 (a := 13) rfl; have e12 := lv_neT q12 (a := 14) rfl; have e13 := lv_neT q13 (a := 15) rfl; have e14 := lv_neT q14 (a := 16) rfl; have e15 := lv_neT q15 (a := 17) rfl; have e16 := lv_neT q16 (a := 18) rfl; have e17 := lv_neT q17 (a := 19) rfl; have e18 := lv_neT q18 (a := 20) rfl; have e19 := lv_neT q19 (a := 21) rfl; have e20 := lv_neT q20 (a := 22) rfl; have e21 := lv_neT q21 (a := 23) rfl; have e22 := lv_neT q22 (a := 24) rfl; have e23 := lv_neT q23 (a := 25) rfl; omega) (by decide) ?_
  refine z_le (lv2 := [some (.ref (E.2.2.1 29))]) (⟨rfl, trivial⟩) ?_
  exact w_P_readOperand_203 hG C hr  _ hw
theorem d_T_clear_0 : decode prog_6_method_2_code 0 = .ok (.aload_n 0, 1) := by decide +kernel
theorem d_T_clear_1 : decode prog_6_method_2_code 1 = .ok (.iconst 0, 1) := by decide +kernel
theorem d_T_clear_2 : decode prog_6_method_2_code 2 = .ok (.putfield 43, 3) := by decide +kernel
theorem d_T_clear_5 : decode prog_6_method_2_code 5 = .ok (.return_, 1) := by decide +kernel
def wp_T_clear (k : Nat) (h : zH) (post : zH → Prop) : Prop := xTm k ∧ (∀ h1 : zH, h1 = zi h k 10 0 → post h1)
set_option maxRecDepth 100000 in
set_option maxHeartbeats 4000000 in
theorem t_T_clear {l : Launch} {E : zE} {G : (Nat → Prop) → State → Prop} (hG : xGG E G) {k : Nat} {h : zH} {post : zH → Prop} (hw : wp_T_clear k h post) : Ct l xX E xcl xN zT G 0 0 y_T_clear prog_6_method_2_code 1 none [.ref (E.2.2.1 k)] h (zPv post) := by
  unfold wp_T_clear at hw
  obtain ⟨hk_k, hw⟩ := hw
  refine Ct.of (by decide) (Nat.le_of_ble_eq_true rfl) ?_
  intro p e s m below meth c A C hr
  refine z_lv (lv2 := [some (.ref (E.2.2.1 k))]) rfl ?_
  refine z_aload_n C (i := 0) d_T_clear_0 rfl rfl ?_
  refine z_iconst C (v := 0) d_T_clear_1 (by decide) ?_
  refine z_putI C (ci := 3) (j := 10) (F := cf_T) ct_T (xTm_l0 hk_k) (xTm_0 hk_k) rfl in_T ty_T nm_T (by decide) fl_T_43 rfl (by decide +kernel) rfl d_T_clear_2 (fun h1 eh1 => ?_)
  replace hw := hw h1 eh1
  exact z_vret C hr d_T_clear_5 hw
theorem d_P_restart_0 : decode prog_2_method_3_code 0 = .ok (.aload_n 0, 1) := by decide +kernel
theorem d_P_restart_1 : decode prog_2_method_3_code 1 = .ok (.aload_n 1, 1) := by decide +kernel
theorem d_P_restart_2 : decode prog_2_method_3_code 2 = .ok (.putfield 58, 3) := by decide +kernel
theorem d_P_restart_5 : decode prog_2_method_3_code 5 = .ok (.aload_n 0, 1) := by decide +kernel
theorem d_P_restart_6 : decode prog_2_method_3_code 6 = .ok (.getfield 58, 3) := by decide +kernel
theorem d_P_restart_9 : decode prog_2_method_3_code 9 = .ok (.invokevirtual 82, 3) := by decide +kernel
theorem d_P_restart_12 : decode prog_2_method_3_code 12 = .ok (.aload_n 0, 1) := by decide +kernel
theorem d_P_restart_13 : decode prog_2_method_3_code 13 = .ok (.getfield 54, 3) := by decide +kernel
theorem d_P_restart_16 : decode prog_2_method_3_code 16 = .ok (.invokevirtual 87, 3) := by decide +kernel
theorem d_P_restart_19 : decode prog_2_method_3_code 19 = .ok (.aload_n 0, 1) := by decide +kernel
theorem d_P_restart_20 : decode prog_2_method_3_code 20 = .ok (.getfield 12, 3) := by decide +kernel
theorem d_P_restart_23 : decode prog_2_method_3_code 23 = .ok (.invokevirtual 89, 3) := by decide +kernel
theorem d_P_restart_26 : decode prog_2_method_3_code 26 = .ok (.aload_n 0, 1) := by decide +kernel
theorem d_P_restart_27 : decode prog_2_method_3_code 27 = .ok (.iconst 0, 1) := by decide +kernel
theorem d_P_restart_28 : decode prog_2_method_3_code 28 = .ok (.putfield 22, 3) := by decide +kernel
theorem d_P_restart_31 : decode prog_2_method_3_code 31 = .ok (.aload_n 0, 1) := by decide +kernel
theorem d_P_restart_32 : decode prog_2_method_3_code 32 = .ok (.iconst 0, 1) := by decide +kernel
theorem d_P_restart_33 : decode prog_2_method_3_code 33 = .ok (.putfield 39, 3) := by decide +kernel
theorem d_P_restart_36 : decode prog_2_method_3_code 36 = .ok (.aload_n 0, 1) := by decide +kernel
theorem d_P_restart_37 : decode prog_2_method_3_code 37 = .ok (.iconst 0, 1) := by decide +kernel
theorem d_P_restart_38 : decode prog_2_method_3_code 38 = .ok (.putfield 42, 3) := by decide +kernel
theorem d_P_restart_41 : decode prog_2_method_3_code 41 = .ok (.return_, 1) := by decide +kernel
def wp_P_restart (l1 : Nat) (h : zH) (post : zH → Prop) : Prop := xTm l1 ∧ (∀ h1 : zH, h1 = zr h 29 8 l1 → (xTm (h1.2.2 29 8) ∧ wp_T_clear (h1.2.2 29 8) h1 (fun (h4 : zH) => wp_K_restart  h4 (fun (h6 : zH) => wp_G_clear  h6 (fun (h8 : zH) => (∀ h9 : zH, h9 = zi h8 29 4 0 → (∀ h10 : zH, h10 = zi h9 29 9 0 → (∀ h11 : zH, h11 = zi h10 29 10 0 → post h11))))))))
set_option maxRecDepth 100000 in
set_option maxHeartbeats 4000000 in
theorem t_P_restart {l : Launch} {E : zE} {G : (Nat → Prop) → State → Prop} (hG : xGG E G) {l1 : Nat} {h : zH} {post : zH → Prop} (hw : wp_P_restart l1 h post) : Ct l xX E xcl xN zT G 1 20 y_P_restart prog_2_method_3_code 2 none [.ref (E.2.2.1 29), .ref (E.2.2.1 l1)] h (zPv post) := by
  unfold wp_P_restart at hw
  obtain ⟨hk_l1, hw⟩ := hw
  refine Ct.of (by decide) (Nat.le_of_ble_eq_true rfl) ?_
  intro p e s m below meth c A C hr
  refine z_lv (lv2 := [some (.ref (E.2.2.1 29)), some (.ref (E.2.2.1 l1))]) rfl ?_
  refine z_aload_n C (i := 0) d_P_restart_0 rfl rfl ?_
  refine z_aload_n C (i := 1) d_P_restart_1 rfl rfl ?_
  refine z_putR C (ci := 4) (j := 8) (F := cf_P) ct_P (by decide) rfl rfl in_P ty_P nm_P (by decide) fl_P_58 rfl (ty := .object "RangeReckoner$Term") (by decide +kernel) (fun _ => rfl) (fun _ => rfl) rfl d_P_restart_2 (fun h1 eh1 => ?_)
  replace hw := hw h1 eh1
  refine z_aload_n C (i := 0) d_P_restart_5 rfl rfl ?_
  refine z_getR C (ci := 4) (j := 8) (F := cf_P) (by decide) rfl rfl in_P (by decide) fl_P_58 rfl d_P_restart_6 ?_
  obtain ⟨hk2, hw⟩ := hw
  refine z_callVNv ⟨xN_ok, hG.1⟩ zT_good C (t_T_clear hG hw) wn_T_clear nl_P_82 (xTm_l0 hk2) (xTm_0 hk2) rfl (by decide) (by decide) pl_T_clear rfl rfl (Nat.le_of_ble_eq_true rfl) d_P_restart_9 (fun h4 hw => ?_)
  refine z_aload_n C (i := 0) d_P_restart_12 rfl rfl ?_
  refine z_getS C (ci := 4) (j := 1) (F := cf_P) (by decide) rfl rfl in_P (by decide) fl_P_54 rfl d_P_restart_13 ?_
  refine z_callVNv ⟨xN_ok, hG.1⟩ zT_good C (t_K_restart hG hw) wn_K_restart nl_P_87 (by decide) rfl rfl (by decide) (by decide) pl_K_restart rfl rfl (Nat.le_of_ble_eq_true rfl) d_P_restart_16 (fun h6 hw => ?_)
  refine z_aload_n C (i := 0) d_P_restart_19 rfl rfl ?_
  refine z_getS C (ci := 4) (j := 2) (F := cf_P) (by decide) rfl rfl in_P (by decide) fl_P_12 rfl d_P_restart_20 ?_
  refine z_callVNv ⟨xN_ok, hG.1⟩ zT_good C (t_G_clear hG hw) wn_G_clear nl_P_89 (by decide) rfl rfl (by decide) (by decide) pl_G_clear rfl rfl (Nat.le_of_ble_eq_true rfl) d_P_restart_23 (fun h8 hw => ?_)
  refine z_aload_n C (i := 0) d_P_restart_26 rfl rfl ?_
  refine z_iconst C (v := 0) d_P_restart_27 (by decide) ?_
  refine z_putI C (ci := 4) (j := 4) (F := cf_P) ct_P (by decide) rfl rfl in_P ty_P nm_P (by decide) fl_P_22 rfl (by decide +kernel) rfl d_P_restart_28 (fun h9 eh9 => ?_)
  replace hw := hw h9 eh9
  refine z_aload_n C (i := 0) d_P_restart_31 rfl rfl ?_
  refine z_iconst C (v := 0) d_P_restart_32 (by decide) ?_
  refine z_putI C (ci := 4) (j := 9) (F := cf_P) ct_P (by decide) rfl rfl in_P ty_P nm_P (by decide) fl_P_39 rfl (by decide +kernel) rfl d_P_restart_33 (fun h10 eh10 => ?_)
  replace hw := hw h10 eh10
  refine z_aload_n C (i := 0) d_P_restart_36 rfl rfl ?_
  refine z_iconst C (v := 0) d_P_restart_37 (by decide) ?_
  refine z_putI C (ci := 4) (j := 10) (F := cf_P) ct_P (by decide) rfl rfl in_P ty_P nm_P (by decide) fl_P_42 rfl (by decide +kernel) rfl d_P_restart_38 (fun h11 eh11 => ?_)
  replace hw := hw h11 eh11
  exact z_vret C hr d_P_restart_41 hw
theorem d_P_read_0 : decode prog_2_method_2_code 0 = .ok (.aload_n 0, 1) := by decide +kernel
theorem d_P_read_1 : decode prog_2_method_2_code 1 = .ok (.aload_n 1, 1) := by decide +kernel
theorem d_P_read_2 : decode prog_2_method_2_code 2 = .ok (.invokevirtual 62, 3) := by decide +kernel
theorem d_P_read_5 : decode prog_2_method_2_code 5 = .ok (.iconst 0, 1) := by decide +kernel
theorem d_P_read_6 : decode prog_2_method_2_code 6 = .ok (.istore_n 2, 1) := by decide +kernel
theorem d_P_read_7 : decode prog_2_method_2_code 7 = .ok (.iload_n 2, 1) := by decide +kernel
theorem d_P_read_8 : decode prog_2_method_2_code 8 = .ok (.sipush (400), 3) := by decide +kernel
theorem d_P_read_11 : decode prog_2_method_2_code 11 = .ok (.if_icmp .gt (64), 3) := by decide +kernel
theorem d_P_read_14 : decode prog_2_method_2_code 14 = .ok (.aload_n 0, 1) := by decide +kernel
theorem d_P_read_15 : decode prog_2_method_2_code 15 = .ok (.getfield 39, 3) := by decide +kernel
theorem d_P_read_18 : decode prog_2_method_2_code 18 = .ok (.iconst 3, 1) := by decide +kernel
theorem d_P_read_19 : decode prog_2_method_2_code 19 = .ok (.if_icmp .eq (56), 3) := by decide +kernel
theorem d_P_read_22 : decode prog_2_method_2_code 22 = .ok (.aload_n 0, 1) := by decide +kernel
theorem d_P_read_23 : decode prog_2_method_2_code 23 = .ok (.getfield 54, 3) := by decide +kernel
theorem d_P_read_26 : decode prog_2_method_2_code 26 = .ok (.invokevirtual 66, 3) := by decide +kernel
theorem d_P_read_29 : decode prog_2_method_2_code 29 = .ok (.aload_n 0, 1) := by decide +kernel
theorem d_P_read_30 : decode prog_2_method_2_code 30 = .ok (.getfield 39, 3) := by decide +kernel
theorem d_P_read_33 : decode prog_2_method_2_code 33 = .ok (.ifCond .ne (10), 3) := by decide +kernel
theorem d_P_read_36 : decode prog_2_method_2_code 36 = .ok (.aload_n 0, 1) := by decide +kernel
theorem d_P_read_37 : decode prog_2_method_2_code 37 = .ok (.invokevirtual 69, 3) := by decide +kernel
theorem d_P_read_40 : decode prog_2_method_2_code 40 = .ok (.goto (29), 3) := by decide +kernel
theorem d_P_read_43 : decode prog_2_method_2_code 43 = .ok (.aload_n 0, 1) := by decide +kernel
theorem d_P_read_44 : decode prog_2_method_2_code 44 = .ok (.getfield 39, 3) := by decide +kernel
theorem d_P_read_47 : decode prog_2_method_2_code 47 = .ok (.iconst 1, 1) := by decide +kernel
theorem d_P_read_48 : decode prog_2_method_2_code 48 = .ok (.if_icmp .ne (10), 3) := by decide +kernel
theorem d_P_read_51 : decode prog_2_method_2_code 51 = .ok (.aload_n 0, 1) := by decide +kernel
theorem d_P_read_52 : decode prog_2_method_2_code 52 = .ok (.invokevirtual 72, 3) := by decide +kernel
theorem d_P_read_55 : decode prog_2_method_2_code 55 = .ok (.goto (14), 3) := by decide +kernel
theorem d_P_read_58 : decode prog_2_method_2_code 58 = .ok (.aload_n 0, 1) := by decide +kernel
theorem d_P_read_59 : decode prog_2_method_2_code 59 = .ok (.invokevirtual 75, 3) := by decide +kernel
theorem d_P_read_62 : decode prog_2_method_2_code 62 = .ok (.ifCond .ne (7), 3) := by decide +kernel
theorem d_P_read_65 : decode prog_2_method_2_code 65 = .ok (.aload_n 0, 1) := by decide +kernel
theorem d_P_read_66 : decode prog_2_method_2_code 66 = .ok (.invokevirtual 79, 3) := by decide +kernel
theorem d_P_read_69 : decode prog_2_method_2_code 69 = .ok (.iinc 2 (1), 3) := by decide +kernel
theorem d_P_read_72 : decode prog_2_method_2_code 72 = .ok (.goto (-65), 3) := by decide +kernel
theorem d_P_read_75 : decode prog_2_method_2_code 75 = .ok (.aload_n 0, 1) := by decide +kernel
theorem d_P_read_76 : decode prog_2_method_2_code 76 = .ok (.getfield 42, 3) := by decide +kernel
theorem d_P_read_79 : decode prog_2_method_2_code 79 = .ok (.ireturn, 1) := by decide +kernel
def b_P_read_69 (l1 : Nat) (post : Int32 → zH → Prop) (rc : Int32 → zH → Prop) (l2 : Int32) (h : zH) : Prop := rc ((l2 + 1)) h
def b_P_read_75 (l1 : Nat) (post : Int32 → zH → Prop) (h : zH) : Prop := post (h.1 29 10) h
def b_P_read_7 (l1 : Nat) (post : Int32 → zH → Prop) : Nat → Int32 → zH → Prop
  | 0, _, _ => False
  | n + 1, l2, h => (fun rc : Int32 → zH → Prop => ((400 < l2 → b_P_read_75 l1 post  h) ∧ (¬ 400 < l2 → (((h.1 29 9) = 3 → b_P_read_75 l1 post  h) ∧ (¬ (h.1 29 9) = 3 → wp_K_advance  h (fun (h2 : zH) => ((¬ (h2.1 29 9) = 0 → ((¬ (h2.1 29 9) = 1 → wp_P_goesOn  h2 (fun (r3 : Int32) (h4 : zH) => ((¬ r3 = 0 → b_P_read_69 l1 post rc (l2) h4) ∧ (r3 = 0 → wp_P_endTerm  h4 (fun (h6 : zH) => b_P_read_69 l1 post rc (l2) h6))))) ∧ ((h2.1 29 9) = 1 → wp_P_readBracket  h2 (fun (h8 : zH) => b_P_read_69 l1 post rc (l2) h8)))) ∧ ((h2.1 29 9) = 0 → wp_P_readOperand  h2 (fun (h10 : zH) => b_P_read_69 l1 post rc (l2) h10))))))))) (b_P_read_7 l1 post n)
def wp_P_read (l1 : Nat) (h : zH) (post : Int32 → zH → Prop) : Prop := xTm l1 ∧ wp_P_restart l1 h (fun (h12 : zH) => (∃ n : Nat, b_P_read_7 l1 post n (0) h12))
set_option maxRecDepth 100000 in
set_option maxHeartbeats 4000000 in
theorem w_P_read_69 {l1 : Nat} {l : Launch} {E : zE} {G : (Nat → Prop) → State → Prop} {p : Program} {e : Env} {s : State} {m : MethodId} {args : Array Value} {below : List Frame} {meth : Method} {c : Code} {A : Nat → Prop} {post : Int32 → zH → Prop} (hG : xGG E G) (C : zCx p s m args meth c E G A 7 154 prog_2_method_2_code 3 cn_P) (hr : meth.sig.returnType = (some .int)) (hk_l1 : xTm l1) {rc : Int32 → zH → Prop} (hrc : ∀ (l2 : Int32) (h : zH), rc l2 h → zGo p l e s m args below meth c E A 7 154 3 (zPi post) h 7 [some (.ref (E.2.2.1 29)), none, some (.int l2)] []) (l2 : Int32) (h : zH) (hw : b_P_read_69 l1 post rc l2 h) : zGo p l e s m args below meth c E A 7 154 3 (zPi post) h 69 [some (.ref (E.2.2.1 29)), none, some (.int l2)] [] := by
  unfold b_P_read_69 at hw
  refine z_iinc C (v := l2 + 1) d_P_read_69 rfl rfl (by decide) rfl ?_
  refine z_goto C (tgt := 7) d_P_read_72 (by decide) ?_
  refine z_le (lv2 := [some (.ref (E.2.2.1 29)), none, some (.int (l2 + 1))]) (⟨rfl, ⟨rfl, trivial⟩⟩) ?_
  exact hrc _ _ hw
set_option maxRecDepth 100000 in
set_option maxHeartbeats 4000000 in
theorem w_P_read_75 {l1 : Nat} {l : Launch} {E : zE} {G : (Nat → Prop) → State → Prop} {p : Program} {e : Env} {s : State} {m : MethodId} {args : Array Value} {below : List Frame} {meth : Method} {c : Code} {A : Nat → Prop} {post : Int32 → zH → Prop} (hG : xGG E G) (C : zCx p s m args meth c E G A 7 154 prog_2_method_2_code 3 cn_P) (hr : meth.sig.returnType = (some .int)) (hk_l1 : xTm l1)  (h : zH) (hw : b_P_read_75 l1 post  h) : zGo p l e s m args below meth c E A 7 154 3 (zPi post) h 75 [some (.ref (E.2.2.1 29)), none, none] [] := by
  unfold b_P_read_75 at hw
  refine z_aload_n C (i := 0) d_P_read_75 rfl rfl ?_
  refine z_getI C (ci := 4) (j := 10) (F := cf_P) (by decide) rfl rfl in_P (by decide) fl_P_42 rfl d_P_read_76 ?_
  exact z_iret C hr d_P_read_79 hw
set_option maxRecDepth 100000 in
set_option maxHeartbeats 4000000 in
theorem w_P_read_7 {l1 : Nat} {l : Launch} {E : zE} {G : (Nat → Prop) → State → Prop} {p : Program} {e : Env} {s : State} {m : MethodId} {args : Array Value} {below : List Frame} {meth : Method} {c : Code} {A : Nat → Prop} {post : Int32 → zH → Prop} (hG : xGG E G) (C : zCx p s m args meth c E G A 7 154 prog_2_method_2_code 3 cn_P) (hr : meth.sig.returnType = (some .int)) (hk_l1 : xTm l1) : ∀ (n : Nat) (l2 : Int32) (h : zH), b_P_read_7 l1 post n l2 h → zGo p l e s m args below meth c E A 7 154 3 (zPi post) h 7 [some (.ref (E.2.2.1 29)), none, some (.int l2)] [] := by
  intro n
  induction n with
  | zero => intro l2 h hw; exact False.elim hw
  | succ n hrc =>
    intro l2 h hw
    unfold b_P_read_7 at hw
    refine z_iload_n C (i := 2) d_P_read_7 rfl rfl ?_
    refine z_sipush C (v := 400) d_P_read_8 (by decide) ?_
    refine z_icmp_gt C (tgt := 75) d_P_read_11 (by decide) (fun q => ?_) (fun q => ?_)
    · replace hw := hw.1 q
      refine z_le (lv2 := [some (.ref (E.2.2.1 29)), none, none]) (⟨rfl, trivial⟩) ?_
      exact w_P_read_75 hG C hr hk_l1  _ hw
    · replace hw := hw.2 q
      refine z_aload_n C (i := 0) d_P_read_14 rfl rfl ?_
      refine z_getI C (ci := 4) (j := 9) (F := cf_P) (by decide) rfl rfl in_P (by decide) fl_P_39 rfl d_P_read_15 ?_
      refine z_iconst C (v := 3) d_P_read_18 (by decide) ?_
      refine z_icmp_eq C (tgt := 75) d_P_read_19 (by decide) (fun q => ?_) (fun q => ?_)
      · replace hw := hw.1 q
        refine z_le (lv2 := [some (.ref (E.2.2.1 29)), none, none]) (⟨rfl, trivial⟩) ?_
        exact w_P_read_75 hG C hr hk_l1  _ hw
      · replace hw := hw.2 q
        refine z_aload_n C (i := 0) d_P_read_22 rfl rfl ?_
        refine z_getS C (ci := 4) (j := 1) (F := cf_P) (by decide) rfl rfl in_P (by decide) fl_P_54 rfl d_P_read_23 ?_
        refine z_callVNv ⟨xN_ok, hG.1⟩ zT_good C (t_K_advance hG hw) wn_K_advance nl_P_66 (by decide) rfl rfl (by decide) (by decide) pl_K_advance rfl rfl (Nat.le_of_ble_eq_true rfl) d_P_read_26 (fun h2 hw => ?_)
        refine z_aload_n C (i := 0) d_P_read_29 rfl rfl ?_
        refine z_getI C (ci := 4) (j := 9) (F := cf_P) (by decide) rfl rfl in_P (by decide) fl_P_39 rfl d_P_read_30 ?_
        refine z_if_ne C (tgt := 43) d_P_read_33 (by decide) (fun q => ?_) (fun q => ?_)
        · replace hw := hw.1 q
          refine z_aload_n C (i := 0) d_P_read_43 rfl rfl ?_
          refine z_getI C (ci := 4) (j := 9) (F := cf_P) (by decide) rfl rfl in_P (by decide) fl_P_39 rfl d_P_read_44 ?_
          refine z_iconst C (v := 1) d_P_read_47 (by decide) ?_
          refine z_icmp_ne C (tgt := 58) d_P_read_48 (by decide) (fun q => ?_) (fun q => ?_)
          · replace hw := hw.1 q
            refine z_aload_n C (i := 0) d_P_read_58 rfl rfl ?_
            refine z_callVi ⟨xN_ok, hG.1⟩ zT_good C (t_P_goesOn hG hw) ol_P_75 (by decide) rfl rfl (by decide) (by decide) pl_P_goesOn rfl rfl (Nat.le_of_ble_eq_true rfl) d_P_read_59 (fun r3 h4 hw => ?_)
            refine z_if_ne C (tgt := 69) d_P_read_62 (by decide) (fun q => ?_) (fun q => ?_)
            · replace hw := hw.1 q
              refine z_le (lv2 := [some (.ref (E.2.2.1 29)), none, some (.int l2)]) (⟨rfl, ⟨rfl, trivial⟩⟩) ?_
              exact w_P_read_69 hG C hr hk_l1 hrc _ _ hw
            · replace hw := hw.2 q
              refine z_aload_n C (i := 0) d_P_read_65 rfl rfl ?_
              refine z_callVv ⟨xN_ok, hG.1⟩ zT_good C (t_P_endTerm hG hw) ol_P_79 (by decide) rfl rfl (by decide) (by decide) pl_P_endTerm rfl rfl (Nat.le_of_ble_eq_true rfl) d_P_read_66 (fun h6 hw => ?_)
              refine z_le (lv2 := [some (.ref (E.2.2.1 29)), none, some (.int l2)]) (⟨rfl, ⟨rfl, trivial⟩⟩) ?_
              exact w_P_read_69 hG C hr hk_l1 hrc _ _ hw
          · replace hw := hw.2 q
            refine z_aload_n C (i := 0) d_P_read_51 rfl rfl ?_
            refine z_callVv ⟨xN_ok, hG.1⟩ zT_good C (t_P_readBracket hG hw) ol_P_72 (by decide) rfl rfl (by decide) (by decide) pl_P_readBracket rfl rfl (Nat.le_of_ble_eq_true rfl) d_P_read_52 (fun h8 hw => ?_)
            refine z_goto C (tgt := 69) d_P_read_55 (by decide) ?_
            refine z_le (lv2 := [some (.ref (E.2.2.1 29)), none, some (.int l2)]) (⟨rfl, ⟨rfl, trivial⟩⟩) ?_
            exact w_P_read_69 hG C hr hk_l1 hrc _ _ hw
        · replace hw := hw.2 q
          refine z_aload_n C (i := 0) d_P_read_36 rfl rfl ?_
          refine z_callVv ⟨xN_ok, hG.1⟩ zT_good C (t_P_readOperand hG hw) ol_P_69 (by decide) rfl rfl (by decide) (by decide) pl_P_readOperand rfl rfl (Nat.le_of_ble_eq_true rfl) d_P_read_37 (fun h10 hw => ?_)
          refine z_goto C (tgt := 69) d_P_read_40 (by decide) ?_
          refine z_le (lv2 := [some (.ref (E.2.2.1 29)), none, some (.int l2)]) (⟨rfl, ⟨rfl, trivial⟩⟩) ?_
          exact w_P_read_69 hG C hr hk_l1 hrc _ _ hw
set_option maxRecDepth 100000 in
set_option maxHeartbeats 4000000 in
theorem t_P_read {l : Launch} {E : zE} {G : (Nat → Prop) → State → Prop} (hG : xGG E G) {l1 : Nat} {h : zH} {post : Int32 → zH → Prop} (hw : wp_P_read l1 h post) : Ct l xX E xcl xN zT G 7 154 y_P_read prog_2_method_2_code 3 (some .int) [.ref (E.2.2.1 29), .ref (E.2.2.1 l1)] h (zPi post) := by
  unfold wp_P_read at hw
  obtain ⟨hk_l1, hw⟩ := hw
  refine Ct.of (by decide) (Nat.le_of_ble_eq_true rfl) ?_
  intro p e s m below meth c A C hr
  refine z_lv (lv2 := [some (.ref (E.2.2.1 29)), some (.ref (E.2.2.1 l1)), none]) rfl ?_
  refine z_aload_n C (i := 0) d_P_read_0 rfl rfl ?_
  refine z_aload_n C (i := 1) d_P_read_1 rfl rfl ?_
  refine z_callVv ⟨xN_ok, hG.1⟩ zT_good C (t_P_restart hG hw) ol_P_62 (by decide) rfl rfl (by decide) (by decide) pl_P_restart rfl rfl (Nat.le_of_ble_eq_true rfl) d_P_read_2 (fun h12 hw => ?_)
  refine z_iconst C (v := 0) d_P_read_5 (by decide) ?_
  refine z_istore_n C (i := 2) d_P_read_6 rfl (by decide) rfl ?_
  refine z_le (lv2 := [some (.ref (E.2.2.1 29)), none, some (.int 0)]) (⟨rfl, ⟨rfl, trivial⟩⟩) ?_
  obtain ⟨n, hw⟩ := hw
  exact w_P_read_7 hG C hr hk_l1 n _ _ hw
theorem d_R_count_0 : decode prog_1_method_9_code 0 = .ok (.iload_n 1, 1) := by decide +kernel
theorem d_R_count_1 : decode prog_1_method_9_code 1 = .ok (.tableswitch (72) (0) (3) #[31, 39, 47, 55], 31) := by decide +kernel
theorem d_R_count_32 : decode prog_1_method_9_code 32 = .ok (.aload_n 0, 1) := by decide +kernel
theorem d_R_count_33 : decode prog_1_method_9_code 33 = .ok (.getfield 12, 3) := by decide +kernel
theorem d_R_count_36 : decode prog_1_method_9_code 36 = .ok (.getfield 97, 3) := by decide +kernel
theorem d_R_count_39 : decode prog_1_method_9_code 39 = .ok (.ireturn, 1) := by decide +kernel
theorem d_R_count_40 : decode prog_1_method_9_code 40 = .ok (.aload_n 0, 1) := by decide +kernel
theorem d_R_count_41 : decode prog_1_method_9_code 41 = .ok (.getfield 26, 3) := by decide +kernel
theorem d_R_count_44 : decode prog_1_method_9_code 44 = .ok (.getfield 92, 3) := by decide +kernel
theorem d_R_count_47 : decode prog_1_method_9_code 47 = .ok (.ireturn, 1) := by decide +kernel
theorem d_R_count_48 : decode prog_1_method_9_code 48 = .ok (.aload_n 0, 1) := by decide +kernel
theorem d_R_count_49 : decode prog_1_method_9_code 49 = .ok (.getfield 19, 3) := by decide +kernel
theorem d_R_count_52 : decode prog_1_method_9_code 52 = .ok (.getfield 53, 3) := by decide +kernel
theorem d_R_count_55 : decode prog_1_method_9_code 55 = .ok (.ireturn, 1) := by decide +kernel
theorem d_R_count_56 : decode prog_1_method_9_code 56 = .ok (.aload_n 0, 1) := by decide +kernel
theorem d_R_count_57 : decode prog_1_method_9_code 57 = .ok (.getfield 26, 3) := by decide +kernel
theorem d_R_count_60 : decode prog_1_method_9_code 60 = .ok (.aload_n 0, 1) := by decide +kernel
theorem d_R_count_61 : decode prog_1_method_9_code 61 = .ok (.getfield 26, 3) := by decide +kernel
theorem d_R_count_64 : decode prog_1_method_9_code 64 = .ok (.getfield 92, 3) := by decide +kernel
theorem d_R_count_67 : decode prog_1_method_9_code 67 = .ok (.iconst 1, 1) := by decide +kernel
theorem d_R_count_68 : decode prog_1_method_9_code 68 = .ok (.isub, 1) := by decide +kernel
theorem d_R_count_69 : decode prog_1_method_9_code 69 = .ok (.invokevirtual 98, 3) := by decide +kernel
theorem d_R_count_72 : decode prog_1_method_9_code 72 = .ok (.ireturn, 1) := by decide +kernel
theorem d_R_count_73 : decode prog_1_method_9_code 73 = .ok (.iconst (-1), 1) := by decide +kernel
theorem d_R_count_74 : decode prog_1_method_9_code 74 = .ok (.ireturn, 1) := by decide +kernel
def wp_R_count (l1 : Int32) (h : zH) (post : Int32 → zH → Prop) : Prop := ((l1 = 0 → post (h.1 1 3) h) ∧ (¬ l1 = 0 → ((l1 = 1 → (xTm (h.2.2 0 3) ∧ post (h.1 (h.2.2 0 3) 10) h)) ∧ (¬ l1 = 1 → ((l1 = 2 → post (h.1 5 1) h) ∧ (¬ l1 = 2 → ((l1 = 3 → (xTm (h.2.2 0 3) ∧ wp_T_depthOf (h.2.2 0 3) (((h.1 (h.2.2 0 3) 10) - 1)) h (fun (r3 : Int32) (h4 : zH) => post r3 h4))) ∧ (¬ l1 = 3 → post (-1) h))))))))
set_option maxRecDepth 100000 in
set_option maxHeartbeats 4000000 in
theorem t_R_count {l : Launch} {E : zE} {G : (Nat → Prop) → State → Prop} (hG : xGG E G) {l1 : Int32} {h : zH} {post : Int32 → zH → Prop} (hw : wp_R_count l1 h post) : Ct l xX E xcl xN zT G 2 42 y_R_count prog_1_method_9_code 2 (some .int) [.ref (E.2.2.1 0), .int l1] h (zPi post) := by
  unfold wp_R_count at hw
  refine Ct.of (by decide) (Nat.le_of_ble_eq_true rfl) ?_
  intro p e s m below meth c A C hr
  refine z_lv (lv2 := [some (.ref (E.2.2.1 0)), some (.int l1)]) rfl ?_
  refine z_iload_n C (i := 1) d_R_count_0 rfl rfl ?_
  refine z_tcase C (off := 31) (tgt := 32) (0 : Int32) d_R_count_1 (by decide) (by decide) rfl (by decide) (fun q0 => ?_) (fun q0 => ?_)
  · replace hw := hw.1 q0
    refine z_aload_n C (i := 0) d_R_count_32 rfl rfl ?_
    refine z_getS C (ci := 0) (j := 0) (F := cf_R) (by decide) rfl rfl in_R (by decide) fl_R_12 rfl d_R_count_33 ?_
    refine z_getIN C (ci := 1) (j := 3) (F := cf_V) (by decide) rfl rfl in_V (by decide) fn_R_97 rfl d_R_count_36 ?_
    exact z_iret C hr d_R_count_39 hw
  replace hw := hw.2 q0
  refine z_tcase C (off := 39) (tgt := 40) (1 : Int32) d_R_count_1 (by decide) (by decide) rfl (by decide) (fun q1 => ?_) (fun q1 => ?_)
  · replace hw := hw.1 q1
    refine z_aload_n C (i := 0) d_R_count_40 rfl rfl ?_
    refine z_getR C (ci := 0) (j := 3) (F := cf_R) (by decide) rfl rfl in_R (by decide) fl_R_26 rfl d_R_count_41 ?_
    obtain ⟨hk1, hw⟩ := hw
    refine z_getIN C (ci := 3) (j := 10) (F := cf_T) (xTm_l0 hk1) (xTm_0 hk1) rfl in_T (by decide) fn_R_92 rfl d_R_count_44 ?_
    exact z_iret C hr d_R_count_47 hw
  replace hw := hw.2 q1
  refine z_tcase C (off := 47) (tgt := 48) (2 : Int32) d_R_count_1 (by decide) (by decide) rfl (by decide) (fun q2 => ?_) (fun q2 => ?_)
  · replace hw := hw.1 q2
    refine z_aload_n C (i := 0) d_R_count_48 rfl rfl ?_
    refine z_getS C (ci := 0) (j := 1) (F := cf_R) (by decide) rfl rfl in_R (by decide) fl_R_19 rfl d_R_count_49 ?_
    refine z_getIN C (ci := 2) (j := 1) (F := cf_A) (by decide) rfl rfl in_A (by decide) fn_R_53 rfl d_R_count_52 ?_
    exact z_iret C hr d_R_count_55 hw
  replace hw := hw.2 q2
  refine z_tcase C (off := 55) (tgt := 56) (3 : Int32) d_R_count_1 (by decide) (by decide) rfl (by decide) (fun q3 => ?_) (fun q3 => ?_)
  · replace hw := hw.1 q3
    refine z_aload_n C (i := 0) d_R_count_56 rfl rfl ?_
    refine z_getR C (ci := 0) (j := 3) (F := cf_R) (by decide) rfl rfl in_R (by decide) fl_R_26 rfl d_R_count_57 ?_
    refine z_aload_n C (i := 0) d_R_count_60 rfl rfl ?_
    refine z_getR C (ci := 0) (j := 3) (F := cf_R) (by decide) rfl rfl in_R (by decide) fl_R_26 rfl d_R_count_61 ?_
    obtain ⟨hk2, hw⟩ := hw
    refine z_getIN C (ci := 3) (j := 10) (F := cf_T) (xTm_l0 hk2) (xTm_0 hk2) rfl in_T (by decide) fn_R_92 rfl d_R_count_64 ?_
    refine z_iconst C (v := 1) d_R_count_67 (by decide) ?_
    refine z_isub C d_R_count_68 ?_
    refine z_callVNi ⟨xN_ok, hG.1⟩ zT_good C (t_T_depthOf hG hw) wn_T_depthOf nl_R_98 (xTm_l0 hk2) (xTm_0 hk2) rfl (by decide) (by decide) pl_T_depthOf rfl rfl (Nat.le_of_ble_eq_true rfl) d_R_count_69 (fun r3 h4 hw => ?_)
    exact z_iret C hr d_R_count_72 hw
  replace hw := hw.2 q3
  refine z_tabOut C (tgt := 73) d_R_count_1 (by have e0 := lv_neT q0 (a := 0) rfl; have e1 := lv_neT q1 (a := 1) rfl; have e2 := lv_neT q2 (a := 2) rfl; have e3 := lv_neT q3 (a := 3) rfl; omega) (by decide) ?_
  refine z_iconst C (v := (-1)) d_R_count_73 (by decide) ?_
  exact z_iret C hr d_R_count_74 hw
theorem d_R_feed_0 : decode prog_1_method_4_code 0 = .ok (.aload_n 0, 1) := by decide +kernel
theorem d_R_feed_1 : decode prog_1_method_4_code 1 = .ok (.getfield 19, 3) := by decide +kernel
theorem d_R_feed_4 : decode prog_1_method_4_code 4 = .ok (.iload_n 1, 1) := by decide +kernel
theorem d_R_feed_5 : decode prog_1_method_4_code 5 = .ok (.iload_n 2, 1) := by decide +kernel
theorem d_R_feed_6 : decode prog_1_method_4_code 6 = .ok (.invokevirtual 50, 3) := by decide +kernel
theorem d_R_feed_9 : decode prog_1_method_4_code 9 = .ok (.ifCond .eq (13), 3) := by decide +kernel
theorem d_R_feed_12 : decode prog_1_method_4_code 12 = .ok (.aload_n 0, 1) := by decide +kernel
theorem d_R_feed_13 : decode prog_1_method_4_code 13 = .ok (.getfield 19, 3) := by decide +kernel
theorem d_R_feed_16 : decode prog_1_method_4_code 16 = .ok (.getfield 53, 3) := by decide +kernel
theorem d_R_feed_19 : decode prog_1_method_4_code 19 = .ok (.goto (4), 3) := by decide +kernel
theorem d_R_feed_22 : decode prog_1_method_4_code 22 = .ok (.iconst (-1), 1) := by decide +kernel
theorem d_R_feed_23 : decode prog_1_method_4_code 23 = .ok (.ireturn, 1) := by decide +kernel
def b_R_feed_23 (post : Int32 → zH → Prop) (s0 : Int32) (h : zH) : Prop := post s0 h
def wp_R_feed (l1 : Int32) (l2 : Int32) (h : zH) (post : Int32 → zH → Prop) : Prop := wp_A_append (l1) (l2) h (fun (r1 : Int32) (h2 : zH) => ((r1 = 0 → b_R_feed_23 post ((-1)) h2) ∧ (¬ r1 = 0 → b_R_feed_23 post ((h2.1 5 1)) h2)))
set_option maxRecDepth 100000 in
set_option maxHeartbeats 4000000 in
theorem w_R_feed_23 {l : Launch} {E : zE} {G : (Nat → Prop) → State → Prop} {p : Program} {e : Env} {s : State} {m : MethodId} {args : Array Value} {below : List Frame} {meth : Method} {c : Code} {A : Nat → Prop} {post : Int32 → zH → Prop} (hG : xGG E G) (C : zCx p s m args meth c E G A 2 48 prog_1_method_4_code 3 cn_R) (hr : meth.sig.returnType = (some .int))  (s0 : Int32) (h : zH) (hw : b_R_feed_23 post s0 h) : zGo p l e s m args below meth c E A 2 48 3 (zPi post) h 23 [none, none, none] [.int s0] := by
  unfold b_R_feed_23 at hw
  exact z_iret C hr d_R_feed_23 hw
set_option maxRecDepth 100000 in
set_option maxHeartbeats 4000000 in
theorem t_R_feed {l : Launch} {E : zE} {G : (Nat → Prop) → State → Prop} (hG : xGG E G) {l1 : Int32} {l2 : Int32} {h : zH} {post : Int32 → zH → Prop} (hw : wp_R_feed l1 l2 h post) : Ct l xX E xcl xN zT G 2 48 y_R_feed prog_1_method_4_code 3 (some .int) [.ref (E.2.2.1 0), .int l1, .int l2] h (zPi post) := by
  unfold wp_R_feed at hw
  refine Ct.of (by decide) (Nat.le_of_ble_eq_true rfl) ?_
  intro p e s m below meth c A C hr
  refine z_lv (lv2 := [some (.ref (E.2.2.1 0)), some (.int l1), some (.int l2)]) rfl ?_
  refine z_aload_n C (i := 0) d_R_feed_0 rfl rfl ?_
  refine z_getS C (ci := 0) (j := 1) (F := cf_R) (by decide) rfl rfl in_R (by decide) fl_R_19 rfl d_R_feed_1 ?_
  refine z_iload_n C (i := 1) d_R_feed_4 rfl rfl ?_
  refine z_iload_n C (i := 2) d_R_feed_5 rfl rfl ?_
  refine z_callVNi ⟨xN_ok, hG.1⟩ zT_good C (t_A_append hG hw) wn_A_append nl_R_50 (by decide) rfl rfl (by decide) (by decide) pl_A_append rfl rfl (Nat.le_of_ble_eq_true rfl) d_R_feed_6 (fun r1 h2 hw => ?_)
  refine z_if_eq C (tgt := 22) d_R_feed_9 (by decide) (fun q => ?_) (fun q => ?_)
  · replace hw := hw.1 q
    refine z_iconst C (v := (-1)) d_R_feed_22 (by decide) ?_
    refine z_le (lv2 := [none, none, none]) (trivial) ?_
    exact w_R_feed_23 hG C hr _ _ hw
  · replace hw := hw.2 q
    refine z_aload_n C (i := 0) d_R_feed_12 rfl rfl ?_
    refine z_getS C (ci := 0) (j := 1) (F := cf_R) (by decide) rfl rfl in_R (by decide) fl_R_19 rfl d_R_feed_13 ?_
    refine z_getIN C (ci := 2) (j := 1) (F := cf_A) (by decide) rfl rfl in_A (by decide) fn_R_53 rfl d_R_feed_16 ?_
    refine z_goto C (tgt := 23) d_R_feed_19 (by decide) ?_
    refine z_le (lv2 := [none, none, none]) (trivial) ?_
    exact w_R_feed_23 hG C hr _ _ hw
theorem d_V_set_0 : decode prog_8_method_4_code 0 = .ok (.aload_n 0, 1) := by decide +kernel
theorem d_V_set_1 : decode prog_8_method_4_code 1 = .ok (.iload_n 1, 1) := by decide +kernel
theorem d_V_set_2 : decode prog_8_method_4_code 2 = .ok (.invokevirtual 36, 3) := by decide +kernel
theorem d_V_set_5 : decode prog_8_method_4_code 5 = .ok (.ifCond .eq (23), 3) := by decide +kernel
theorem d_V_set_8 : decode prog_8_method_4_code 8 = .ok (.iload_n 2, 1) := by decide +kernel
theorem d_V_set_9 : decode prog_8_method_4_code 9 = .ok (.aload_n 0, 1) := by decide +kernel
theorem d_V_set_10 : decode prog_8_method_4_code 10 = .ok (.getfield 9, 3) := by decide +kernel
theorem d_V_set_13 : decode prog_8_method_4_code 13 = .ok (.iload_n 1, 1) := by decide +kernel
theorem d_V_set_14 : decode prog_8_method_4_code 14 = .ok (.iaload, 1) := by decide +kernel
theorem d_V_set_15 : decode prog_8_method_4_code 15 = .ok (.if_icmp .lt (13), 3) := by decide +kernel
theorem d_V_set_18 : decode prog_8_method_4_code 18 = .ok (.iload_n 2, 1) := by decide +kernel
theorem d_V_set_19 : decode prog_8_method_4_code 19 = .ok (.aload_n 0, 1) := by decide +kernel
theorem d_V_set_20 : decode prog_8_method_4_code 20 = .ok (.getfield 15, 3) := by decide +kernel
theorem d_V_set_23 : decode prog_8_method_4_code 23 = .ok (.iload_n 1, 1) := by decide +kernel
theorem d_V_set_24 : decode prog_8_method_4_code 24 = .ok (.iaload, 1) := by decide +kernel
theorem d_V_set_25 : decode prog_8_method_4_code 25 = .ok (.if_icmp .le (5), 3) := by decide +kernel
theorem d_V_set_28 : decode prog_8_method_4_code 28 = .ok (.iconst 0, 1) := by decide +kernel
theorem d_V_set_29 : decode prog_8_method_4_code 29 = .ok (.ireturn, 1) := by decide +kernel
theorem d_V_set_30 : decode prog_8_method_4_code 30 = .ok (.aload_n 0, 1) := by decide +kernel
theorem d_V_set_31 : decode prog_8_method_4_code 31 = .ok (.getfield 18, 3) := by decide +kernel
theorem d_V_set_34 : decode prog_8_method_4_code 34 = .ok (.iload_n 1, 1) := by decide +kernel
theorem d_V_set_35 : decode prog_8_method_4_code 35 = .ok (.iload_n 2, 1) := by decide +kernel
theorem d_V_set_36 : decode prog_8_method_4_code 36 = .ok (.iastore, 1) := by decide +kernel
theorem d_V_set_37 : decode prog_8_method_4_code 37 = .ok (.iconst 1, 1) := by decide +kernel
theorem d_V_set_38 : decode prog_8_method_4_code 38 = .ok (.ireturn, 1) := by decide +kernel
def b_V_set_28 (post : Int32 → zH → Prop) (h : zH) : Prop := post 0 h
def wp_V_set (l1 : Int32) (l2 : Int32) (h : zH) (post : Int32 → zH → Prop) : Prop := wp_V_has (l1) h (fun (r1 : Int32) (h2 : zH) => ((r1 = 0 → b_V_set_28 post  h2) ∧ (¬ r1 = 0 → (vp_in l1 20 ∧ ((l2 < (h2.1 2 (l1 : Int32).toNatClampNeg) → b_V_set_28 post  h2) ∧ (¬ l2 < (h2.1 2 (l1 : Int32).toNatClampNeg) → (vp_in l1 20 ∧ ((l2 ≤ (h2.1 3 (l1 : Int32).toNatClampNeg) → (vp_in l1 20 ∧ ∀ h3 : zH, h3 = zi h2 4 (l1 : Int32).toNatClampNeg l2 → post 1 h3)) ∧ (¬ l2 ≤ (h2.1 3 (l1 : Int32).toNatClampNeg) → b_V_set_28 post  h2)))))))))
set_option maxRecDepth 100000 in
set_option maxHeartbeats 4000000 in
theorem w_V_set_28 {l : Launch} {E : zE} {G : (Nat → Prop) → State → Prop} {p : Program} {e : Env} {s : State} {m : MethodId} {args : Array Value} {below : List Frame} {meth : Method} {c : Code} {A : Nat → Prop} {post : Int32 → zH → Prop} (hG : xGG E G) (C : zCx p s m args meth c E G A 1 21 prog_8_method_4_code 3 cn_V) (hr : meth.sig.returnType = (some .boolean))  (h : zH) (hw : b_V_set_28 post  h) : zGo p l e s m args below meth c E A 1 21 3 (zPi post) h 28 [none, none, none] [] := by
  unfold b_V_set_28 at hw
  refine z_iconst C (v := 0) d_V_set_28 (by decide) ?_
  exact z_zret C hr rfl d_V_set_29 hw
set_option maxRecDepth 100000 in
set_option maxHeartbeats 4000000 in
theorem t_V_set {l : Launch} {E : zE} {G : (Nat → Prop) → State → Prop} (hG : xGG E G) {l1 : Int32} {l2 : Int32} {h : zH} {post : Int32 → zH → Prop} (hw : wp_V_set l1 l2 h post) : Ct l xX E xcl xN zT G 1 21 y_V_set prog_8_method_4_code 3 (some .boolean) [.ref (E.2.2.1 1), .int l1, .int l2] h (zPi post) := by
  unfold wp_V_set at hw
  refine Ct.of (by decide) (Nat.le_of_ble_eq_true rfl) ?_
  intro p e s m below meth c A C hr
  refine z_lv (lv2 := [some (.ref (E.2.2.1 1)), some (.int l1), some (.int l2)]) rfl ?_
  refine z_aload_n C (i := 0) d_V_set_0 rfl rfl ?_
  refine z_iload_n C (i := 1) d_V_set_1 rfl rfl ?_
  refine z_callVi ⟨xN_ok, hG.1⟩ zT_good C (t_V_has hG hw) ol_V_36 (by decide) rfl rfl (by decide) (by decide) pl_V_has rfl rfl (Nat.le_of_ble_eq_true rfl) d_V_set_2 (fun r1 h2 hw => ?_)
  refine z_if_eq C (tgt := 28) d_V_set_5 (by decide) (fun q => ?_) (fun q => ?_)
  · replace hw := hw.1 q
    refine z_le (lv2 := [none, none, none]) (trivial) ?_
    exact w_V_set_28 hG C hr  _ hw
  · replace hw := hw.2 q
    refine z_iload_n C (i := 2) d_V_set_8 rfl rfl ?_
    refine z_aload_n C (i := 0) d_V_set_9 rfl rfl ?_
    refine z_getS C (ci := 1) (j := 0) (F := cf_V) (by decide) rfl rfl in_V (by decide) fl_V_9 rfl d_V_set_10 ?_
    refine z_iload_n C (i := 1) d_V_set_13 rfl rfl ?_
    refine z_iald C (by decide) rfl hw.1 d_V_set_14 ?_
    replace hw := hw.2
    refine z_icmp_lt C (tgt := 28) d_V_set_15 (by decide) (fun q => ?_) (fun q => ?_)
    · replace hw := hw.1 q
      refine z_le (lv2 := [none, none, none]) (trivial) ?_
      exact w_V_set_28 hG C hr  _ hw
    · replace hw := hw.2 q
      refine z_iload_n C (i := 2) d_V_set_18 rfl rfl ?_
      refine z_aload_n C (i := 0) d_V_set_19 rfl rfl ?_
      refine z_getS C (ci := 1) (j := 1) (F := cf_V) (by decide) rfl rfl in_V (by decide) fl_V_15 rfl d_V_set_20 ?_
      refine z_iload_n C (i := 1) d_V_set_23 rfl rfl ?_
      refine z_iald C (by decide) rfl hw.1 d_V_set_24 ?_
      replace hw := hw.2
      refine z_icmp_le C (tgt := 30) d_V_set_25 (by decide) (fun q => ?_) (fun q => ?_)
      · replace hw := hw.1 q
        refine z_aload_n C (i := 0) d_V_set_30 rfl rfl ?_
        refine z_getS C (ci := 1) (j := 2) (F := cf_V) (by decide) rfl rfl in_V (by decide) fl_V_18 rfl d_V_set_31 ?_
        refine z_iload_n C (i := 1) d_V_set_34 rfl rfl ?_
        refine z_iload_n C (i := 2) d_V_set_35 rfl rfl ?_
        refine z_iast C (by decide) rfl hw.1 d_V_set_36 (fun h3 eh3 => ?_)
        replace hw := hw.2 h3 eh3
        refine z_iconst C (v := 1) d_V_set_37 (by decide) ?_
        exact z_zret C hr rfl d_V_set_38 hw
      · replace hw := hw.2 q
        refine z_le (lv2 := [none, none, none]) (trivial) ?_
        exact w_V_set_28 hG C hr  _ hw
theorem d_R_give_0 : decode prog_1_method_3_code 0 = .ok (.aload_n 0, 1) := by decide +kernel
theorem d_R_give_1 : decode prog_1_method_3_code 1 = .ok (.getfield 12, 3) := by decide +kernel
theorem d_R_give_4 : decode prog_1_method_3_code 4 = .ok (.iload_n 1, 1) := by decide +kernel
theorem d_R_give_5 : decode prog_1_method_3_code 5 = .ok (.iload_n 2, 1) := by decide +kernel
theorem d_R_give_6 : decode prog_1_method_3_code 6 = .ok (.invokevirtual 46, 3) := by decide +kernel
theorem d_R_give_9 : decode prog_1_method_3_code 9 = .ok (.ireturn, 1) := by decide +kernel
def wp_R_give (l1 : Int32) (l2 : Int32) (h : zH) (post : Int32 → zH → Prop) : Prop := wp_V_set (l1) (l2) h (fun (r1 : Int32) (h2 : zH) => (narrow .boolean (.int r1) = .int r1 ∧ post r1 h2))
set_option maxRecDepth 100000 in
set_option maxHeartbeats 4000000 in
theorem t_R_give {l : Launch} {E : zE} {G : (Nat → Prop) → State → Prop} (hG : xGG E G) {l1 : Int32} {l2 : Int32} {h : zH} {post : Int32 → zH → Prop} (hw : wp_R_give l1 l2 h post) : Ct l xX E xcl xN zT G 2 43 y_R_give prog_1_method_3_code 3 (some .boolean) [.ref (E.2.2.1 0), .int l1, .int l2] h (zPi post) := by
  unfold wp_R_give at hw
  refine Ct.of (by decide) (Nat.le_of_ble_eq_true rfl) ?_
  intro p e s m below meth c A C hr
  refine z_lv (lv2 := [some (.ref (E.2.2.1 0)), some (.int l1), some (.int l2)]) rfl ?_
  refine z_aload_n C (i := 0) d_R_give_0 rfl rfl ?_
  refine z_getS C (ci := 0) (j := 0) (F := cf_R) (by decide) rfl rfl in_R (by decide) fl_R_12 rfl d_R_give_1 ?_
  refine z_iload_n C (i := 1) d_R_give_4 rfl rfl ?_
  refine z_iload_n C (i := 2) d_R_give_5 rfl rfl ?_
  refine z_callVNi ⟨xN_ok, hG.1⟩ zT_good C (t_V_set hG hw) wn_V_set nl_R_46 (by decide) rfl rfl (by decide) (by decide) pl_V_set rfl rfl (Nat.le_of_ble_eq_true rfl) d_R_give_6 (fun r1 h2 hw => ?_)
  exact z_zret C hr hw.1 d_R_give_9 hw.2
theorem d_T_placeOf_0 : decode prog_6_method_5_code 0 = .ok (.aload_n 0, 1) := by decide +kernel
theorem d_T_placeOf_1 : decode prog_6_method_5_code 1 = .ok (.getfield 15, 3) := by decide +kernel
theorem d_T_placeOf_4 : decode prog_6_method_5_code 4 = .ok (.iload_n 1, 1) := by decide +kernel
theorem d_T_placeOf_5 : decode prog_6_method_5_code 5 = .ok (.invokestatic 47, 3) := by decide +kernel
theorem d_T_placeOf_8 : decode prog_6_method_5_code 8 = .ok (.ireturn, 1) := by decide +kernel
def wp_T_placeOf (k : Nat) (l1 : Int32) (h : zH) (post : Int32 → zH → Prop) : Prop := xTm k ∧ wp_R_at (k + 2) 100 (l1) h (fun (r1 : Int32) (h2 : zH) => post r1 h2)
set_option maxRecDepth 100000 in
set_option maxHeartbeats 4000000 in
theorem t_T_placeOf {l : Launch} {E : zE} {G : (Nat → Prop) → State → Prop} (hG : xGG E G) {k : Nat} {l1 : Int32} {h : zH} {post : Int32 → zH → Prop} (hw : wp_T_placeOf k l1 h post) : Ct l xX E xcl xN zT G 1 21 y_T_placeOf prog_6_method_5_code 2 (some .int) [.ref (E.2.2.1 k), .int l1] h (zPi post) := by
  unfold wp_T_placeOf at hw
  obtain ⟨hk_k, hw⟩ := hw
  refine Ct.of (by decide) (Nat.le_of_ble_eq_true rfl) ?_
  intro p e s m below meth c A C hr
  refine z_lv (lv2 := [some (.ref (E.2.2.1 k)), some (.int l1)]) rfl ?_
  refine z_aload_n C (i := 0) d_T_placeOf_0 rfl rfl ?_
  refine z_getK C (ci := 3) (j := 1) (F := cf_T) (xTm_l0 hk_k) (xTm_0 hk_k) rfl in_T (by decide) fl_T_15 rfl d_T_placeOf_1 ?_
  refine z_iload_n C (i := 1) d_T_placeOf_4 rfl rfl ?_
  refine z_callSNi ⟨xN_ok, hG.1⟩ zT_good C (t_R_at hG hw) wn_R_at nl_T_47 (by decide) (by decide) pl_R_at rfl rfl (Nat.le_of_ble_eq_true rfl) d_T_placeOf_5 (fun r1 h2 hw => ?_)
  exact z_iret C hr d_T_placeOf_8 hw
theorem d_R_part_0 : decode prog_1_method_6_code 0 = .ok (.aload_n 0, 1) := by decide +kernel
theorem d_R_part_1 : decode prog_1_method_6_code 1 = .ok (.getfield 26, 3) := by decide +kernel
theorem d_R_part_4 : decode prog_1_method_6_code 4 = .ok (.iload_n 1, 1) := by decide +kernel
theorem d_R_part_5 : decode prog_1_method_6_code 5 = .ok (.invokevirtual 64, 3) := by decide +kernel
theorem d_R_part_8 : decode prog_1_method_6_code 8 = .ok (.ifCond .ne (5), 3) := by decide +kernel
theorem d_R_part_11 : decode prog_1_method_6_code 11 = .ok (.iconst (-1), 1) := by decide +kernel
theorem d_R_part_12 : decode prog_1_method_6_code 12 = .ok (.ireturn, 1) := by decide +kernel
theorem d_R_part_13 : decode prog_1_method_6_code 13 = .ok (.iload_n 2, 1) := by decide +kernel
theorem d_R_part_14 : decode prog_1_method_6_code 14 = .ok (.tableswitch (66) (0) (3) #[30, 39, 48, 57], 30) := by decide +kernel
theorem d_R_part_44 : decode prog_1_method_6_code 44 = .ok (.aload_n 0, 1) := by decide +kernel
theorem d_R_part_45 : decode prog_1_method_6_code 45 = .ok (.getfield 26, 3) := by decide +kernel
theorem d_R_part_48 : decode prog_1_method_6_code 48 = .ok (.iload_n 1, 1) := by decide +kernel
theorem d_R_part_49 : decode prog_1_method_6_code 49 = .ok (.invokevirtual 68, 3) := by decide +kernel
theorem d_R_part_52 : decode prog_1_method_6_code 52 = .ok (.ireturn, 1) := by decide +kernel
theorem d_R_part_53 : decode prog_1_method_6_code 53 = .ok (.aload_n 0, 1) := by decide +kernel
theorem d_R_part_54 : decode prog_1_method_6_code 54 = .ok (.getfield 26, 3) := by decide +kernel
theorem d_R_part_57 : decode prog_1_method_6_code 57 = .ok (.iload_n 1, 1) := by decide +kernel
theorem d_R_part_58 : decode prog_1_method_6_code 58 = .ok (.invokevirtual 72, 3) := by decide +kernel
theorem d_R_part_61 : decode prog_1_method_6_code 61 = .ok (.ireturn, 1) := by decide +kernel
theorem d_R_part_62 : decode prog_1_method_6_code 62 = .ok (.aload_n 0, 1) := by decide +kernel
theorem d_R_part_63 : decode prog_1_method_6_code 63 = .ok (.getfield 26, 3) := by decide +kernel
theorem d_R_part_66 : decode prog_1_method_6_code 66 = .ok (.iload_n 1, 1) := by decide +kernel
theorem d_R_part_67 : decode prog_1_method_6_code 67 = .ok (.invokevirtual 75, 3) := by decide +kernel
theorem d_R_part_70 : decode prog_1_method_6_code 70 = .ok (.ireturn, 1) := by decide +kernel
theorem d_R_part_71 : decode prog_1_method_6_code 71 = .ok (.aload_n 0, 1) := by decide +kernel
theorem d_R_part_72 : decode prog_1_method_6_code 72 = .ok (.getfield 26, 3) := by decide +kernel
theorem d_R_part_75 : decode prog_1_method_6_code 75 = .ok (.iload_n 1, 1) := by decide +kernel
theorem d_R_part_76 : decode prog_1_method_6_code 76 = .ok (.invokevirtual 78, 3) := by decide +kernel
theorem d_R_part_79 : decode prog_1_method_6_code 79 = .ok (.ireturn, 1) := by decide +kernel
theorem d_R_part_80 : decode prog_1_method_6_code 80 = .ok (.iconst (-1), 1) := by decide +kernel
theorem d_R_part_81 : decode prog_1_method_6_code 81 = .ok (.ireturn, 1) := by decide +kernel
def wp_R_part (l1 : Int32) (l2 : Int32) (h : zH) (post : Int32 → zH → Prop) : Prop := (xTm (h.2.2 0 3) ∧ wp_T_has (h.2.2 0 3) (l1) h (fun (r2 : Int32) (h3 : zH) => ((¬ r2 = 0 → ((l2 = 0 → (xTm (h3.2.2 0 3) ∧ wp_T_placeOf (h3.2.2 0 3) (l1) h3 (fun (r5 : Int32) (h6 : zH) => post r5 h6))) ∧ (¬ l2 = 0 → ((l2 = 1 → (xTm (h3.2.2 0 3) ∧ wp_T_kindOf (h3.2.2 0 3) (l1) h3 (fun (r8 : Int32) (h9 : zH) => post r8 h9))) ∧ (¬ l2 = 1 → ((l2 = 2 → (xTm (h3.2.2 0 3) ∧ wp_T_lowOf (h3.2.2 0 3) (l1) h3 (fun (r11 : Int32) (h12 : zH) => post r11 h12))) ∧ (¬ l2 = 2 → ((l2 = 3 → (xTm (h3.2.2 0 3) ∧ wp_T_highOf (h3.2.2 0 3) (l1) h3 (fun (r14 : Int32) (h15 : zH) => post r14 h15))) ∧ (¬ l2 = 3 → post (-1) h3))))))))) ∧ (r2 = 0 → post (-1) h3))))
set_option maxRecDepth 100000 in
set_option maxHeartbeats 4000000 in
theorem t_R_part {l : Launch} {E : zE} {G : (Nat → Prop) → State → Prop} (hG : xGG E G) {l1 : Int32} {l2 : Int32} {h : zH} {post : Int32 → zH → Prop} (hw : wp_R_part l1 l2 h post) : Ct l xX E xcl xN zT G 2 42 y_R_part prog_1_method_6_code 3 (some .int) [.ref (E.2.2.1 0), .int l1, .int l2] h (zPi post) := by
  unfold wp_R_part at hw
  refine Ct.of (by decide) (Nat.le_of_ble_eq_true rfl) ?_
  intro p e s m below meth c A C hr
  refine z_lv (lv2 := [some (.ref (E.2.2.1 0)), some (.int l1), some (.int l2)]) rfl ?_
  refine z_aload_n C (i := 0) d_R_part_0 rfl rfl ?_
  refine z_getR C (ci := 0) (j := 3) (F := cf_R) (by decide) rfl rfl in_R (by decide) fl_R_26 rfl d_R_part_1 ?_
  refine z_iload_n C (i := 1) d_R_part_4 rfl rfl ?_
  obtain ⟨hk1, hw⟩ := hw
  refine z_callVNi ⟨xN_ok, hG.1⟩ zT_good C (t_T_has hG hw) wn_T_has nl_R_64 (xTm_l0 hk1) (xTm_0 hk1) rfl (by decide) (by decide) pl_T_has rfl rfl (Nat.le_of_ble_eq_true rfl) d_R_part_5 (fun r2 h3 hw => ?_)
  refine z_if_ne C (tgt := 13) d_R_part_8 (by decide) (fun q => ?_) (fun q => ?_)
  · replace hw := hw.1 q
    refine z_iload_n C (i := 2) d_R_part_13 rfl rfl ?_
    refine z_tcase C (off := 30) (tgt := 44) (0 : Int32) d_R_part_14 (by decide) (by decide) rfl (by decide) (fun q0 => ?_) (fun q0 => ?_)
    · replace hw := hw.1 q0
      refine z_aload_n C (i := 0) d_R_part_44 rfl rfl ?_
      refine z_getR C (ci := 0) (j := 3) (F := cf_R) (by decide) rfl rfl in_R (by decide) fl_R_26 rfl d_R_part_45 ?_
      refine z_iload_n C (i := 1) d_R_part_48 rfl rfl ?_
      obtain ⟨hk4, hw⟩ := hw
      refine z_callVNi ⟨xN_ok, hG.1⟩ zT_good C (t_T_placeOf hG hw) wn_T_placeOf nl_R_68 (xTm_l0 hk4) (xTm_0 hk4) rfl (by decide) (by decide) pl_T_placeOf rfl rfl (Nat.le_of_ble_eq_true rfl) d_R_part_49 (fun r5 h6 hw => ?_)
      exact z_iret C hr d_R_part_52 hw
    replace hw := hw.2 q0
    refine z_tcase C (off := 39) (tgt := 53) (1 : Int32) d_R_part_14 (by decide) (by decide) rfl (by decide) (fun q1 => ?_) (fun q1 => ?_)
    · replace hw := hw.1 q1
      refine z_aload_n C (i := 0) d_R_part_53 rfl rfl ?_
      refine z_getR C (ci := 0) (j := 3) (F := cf_R) (by decide) rfl rfl in_R (by decide) fl_R_26 rfl d_R_part_54 ?_
      refine z_iload_n C (i := 1) d_R_part_57 rfl rfl ?_
      obtain ⟨hk7, hw⟩ := hw
      refine z_callVNi ⟨xN_ok, hG.1⟩ zT_good C (t_T_kindOf hG hw) wn_T_kindOf nl_R_72 (xTm_l0 hk7) (xTm_0 hk7) rfl (by decide) (by decide) pl_T_kindOf rfl rfl (Nat.le_of_ble_eq_true rfl) d_R_part_58 (fun r8 h9 hw => ?_)
      exact z_iret C hr d_R_part_61 hw
    replace hw := hw.2 q1
    refine z_tcase C (off := 48) (tgt := 62) (2 : Int32) d_R_part_14 (by decide) (by decide) rfl (by decide) (fun q2 => ?_) (fun q2 => ?_)
    · replace hw := hw.1 q2
      refine z_aload_n C (i := 0) d_R_part_62 rfl rfl ?_
      refine z_getR C (ci := 0) (j := 3) (F := cf_R) (by decide) rfl rfl in_R (by decide) fl_R_26 rfl d_R_part_63 ?_
      refine z_iload_n C (i := 1) d_R_part_66 rfl rfl ?_
      obtain ⟨hk10, hw⟩ := hw
      refine z_callVNi ⟨xN_ok, hG.1⟩ zT_good C (t_T_lowOf hG hw) wn_T_lowOf nl_R_75 (xTm_l0 hk10) (xTm_0 hk10) rfl (by decide) (by decide) pl_T_lowOf rfl rfl (Nat.le_of_ble_eq_true rfl) d_R_part_67 (fun r11 h12 hw => ?_)
      exact z_iret C hr d_R_part_70 hw
    replace hw := hw.2 q2
    refine z_tcase C (off := 57) (tgt := 71) (3 : Int32) d_R_part_14 (by decide) (by decide) rfl (by decide) (fun q3 => ?_) (fun q3 => ?_)
    · replace hw := hw.1 q3
      refine z_aload_n C (i := 0) d_R_part_71 rfl rfl ?_
      refine z_getR C (ci := 0) (j := 3) (F := cf_R) (by decide) rfl rfl in_R (by decide) fl_R_26 rfl d_R_part_72 ?_
      refine z_iload_n C (i := 1) d_R_part_75 rfl rfl ?_
      obtain ⟨hk13, hw⟩ := hw
      refine z_callVNi ⟨xN_ok, hG.1⟩ zT_good C (t_T_highOf hG hw) wn_T_highOf nl_R_78 (xTm_l0 hk13) (xTm_0 hk13) rfl (by decide) (by decide) pl_T_highOf rfl rfl (Nat.le_of_ble_eq_true rfl) d_R_part_76 (fun r14 h15 hw => ?_)
      exact z_iret C hr d_R_part_79 hw
    replace hw := hw.2 q3
    refine z_tabOut C (tgt := 80) d_R_part_14 (by have e0 := lv_neT q0 (a := 0) rfl; have e1 := lv_neT q1 (a := 1) rfl; have e2 := lv_neT q2 (a := 2) rfl; have e3 := lv_neT q3 (a := 3) rfl; omega) (by decide) ?_
    refine z_iconst C (v := (-1)) d_R_part_80 (by decide) ?_
    exact z_iret C hr d_R_part_81 hw
  · replace hw := hw.2 q
    refine z_iconst C (v := (-1)) d_R_part_11 (by decide) ?_
    exact z_iret C hr d_R_part_12 hw
theorem d_R_take_0 : decode prog_1_method_5_code 0 = .ok (.aload_n 0, 1) := by decide +kernel
theorem d_R_take_1 : decode prog_1_method_5_code 1 = .ok (.getfield 38, 3) := by decide +kernel
theorem d_R_take_4 : decode prog_1_method_5_code 4 = .ok (.aload_n 0, 1) := by decide +kernel
theorem d_R_take_5 : decode prog_1_method_5_code 5 = .ok (.getfield 30, 3) := by decide +kernel
theorem d_R_take_8 : decode prog_1_method_5_code 8 = .ok (.invokevirtual 57, 3) := by decide +kernel
theorem d_R_take_11 : decode prog_1_method_5_code 11 = .ok (.istore_n 1, 1) := by decide +kernel
theorem d_R_take_12 : decode prog_1_method_5_code 12 = .ok (.aload_n 0, 1) := by decide +kernel
theorem d_R_take_13 : decode prog_1_method_5_code 13 = .ok (.getfield 19, 3) := by decide +kernel
theorem d_R_take_16 : decode prog_1_method_5_code 16 = .ok (.invokevirtual 61, 3) := by decide +kernel
theorem d_R_take_19 : decode prog_1_method_5_code 19 = .ok (.iload_n 1, 1) := by decide +kernel
theorem d_R_take_20 : decode prog_1_method_5_code 20 = .ok (.ifCond .ne (21), 3) := by decide +kernel
theorem d_R_take_23 : decode prog_1_method_5_code 23 = .ok (.aload_n 0, 1) := by decide +kernel
theorem d_R_take_24 : decode prog_1_method_5_code 24 = .ok (.getfield 26, 3) := by decide +kernel
theorem d_R_take_27 : decode prog_1_method_5_code 27 = .ok (.astore_n 2, 1) := by decide +kernel
theorem d_R_take_28 : decode prog_1_method_5_code 28 = .ok (.aload_n 0, 1) := by decide +kernel
theorem d_R_take_29 : decode prog_1_method_5_code 29 = .ok (.aload_n 0, 1) := by decide +kernel
theorem d_R_take_30 : decode prog_1_method_5_code 30 = .ok (.getfield 30, 3) := by decide +kernel
theorem d_R_take_33 : decode prog_1_method_5_code 33 = .ok (.putfield 26, 3) := by decide +kernel
theorem d_R_take_36 : decode prog_1_method_5_code 36 = .ok (.aload_n 0, 1) := by decide +kernel
theorem d_R_take_37 : decode prog_1_method_5_code 37 = .ok (.aload_n 2, 1) := by decide +kernel
theorem d_R_take_38 : decode prog_1_method_5_code 38 = .ok (.putfield 30, 3) := by decide +kernel
theorem d_R_take_41 : decode prog_1_method_5_code 41 = .ok (.iload_n 1, 1) := by decide +kernel
theorem d_R_take_42 : decode prog_1_method_5_code 42 = .ok (.ireturn, 1) := by decide +kernel
def b_R_take_41 (post : Int32 → zH → Prop) (l1 : Int32) (h : zH) : Prop := post l1 h
def wp_R_take (h : zH) (post : Int32 → zH → Prop) : Prop := wp_P_read (h.2.2 0 4) h (fun (r1 : Int32) (h2 : zH) => wp_A_clear  h2 (fun (h4 : zH) => ((¬ r1 = 0 → b_R_take_41 post (r1) h4) ∧ (r1 = 0 → (∀ h5 : zH, h5 = zr h4 0 3 (h4.2.2 0 4) → (∀ h6 : zH, h6 = zr h5 0 4 (h4.2.2 0 3) → b_R_take_41 post (r1) h6))))))
set_option maxRecDepth 100000 in
set_option maxHeartbeats 4000000 in
theorem w_R_take_41 {l : Launch} {E : zE} {G : (Nat → Prop) → State → Prop} {p : Program} {e : Env} {s : State} {m : MethodId} {args : Array Value} {below : List Frame} {meth : Method} {c : Code} {A : Nat → Prop} {post : Int32 → zH → Prop} (hG : xGG E G) (C : zCx p s m args meth c E G A 8 176 prog_1_method_5_code 3 cn_R) (hr : meth.sig.returnType = (some .int))  (l1 : Int32) (h : zH) (hw : b_R_take_41 post l1 h) : zGo p l e s m args below meth c E A 8 176 3 (zPi post) h 41 [none, some (.int l1), none] [] := by
  unfold b_R_take_41 at hw
  refine z_iload_n C (i := 1) d_R_take_41 rfl rfl ?_
  exact z_iret C hr d_R_take_42 hw
set_option maxRecDepth 100000 in
set_option maxHeartbeats 4000000 in
theorem t_R_take {l : Launch} {E : zE} {G : (Nat → Prop) → State → Prop} (hG : xGG E G) {h : zH} {post : Int32 → zH → Prop} (hw : wp_R_take  h post) : Ct l xX E xcl xN zT G 8 176 y_R_take prog_1_method_5_code 3 (some .int) [.ref (E.2.2.1 0)] h (zPi post) := by
  unfold wp_R_take at hw
  refine Ct.of (by decide) (Nat.le_of_ble_eq_true rfl) ?_
  intro p e s m below meth c A C hr
  refine z_lv (lv2 := [some (.ref (E.2.2.1 0)), none, none]) rfl ?_
  refine z_aload_n C (i := 0) d_R_take_0 rfl rfl ?_
  refine z_getS C (ci := 0) (j := 2) (F := cf_R) (by decide) rfl rfl in_R (by decide) fl_R_38 rfl d_R_take_1 ?_
  refine z_aload_n C (i := 0) d_R_take_4 rfl rfl ?_
  refine z_getR C (ci := 0) (j := 4) (F := cf_R) (by decide) rfl rfl in_R (by decide) fl_R_30 rfl d_R_take_5 ?_
  refine z_callVNi ⟨xN_ok, hG.1⟩ zT_good C (t_P_read hG hw) wn_P_read nl_R_57 (by decide) rfl rfl (by decide) (by decide) pl_P_read rfl rfl (Nat.le_of_ble_eq_true rfl) d_R_take_8 (fun r1 h2 hw => ?_)
  refine z_istore_n C (i := 1) d_R_take_11 rfl (by decide) rfl ?_
  refine z_aload_n C (i := 0) d_R_take_12 rfl rfl ?_
  refine z_getS C (ci := 0) (j := 1) (F := cf_R) (by decide) rfl rfl in_R (by decide) fl_R_19 rfl d_R_take_13 ?_
  refine z_callVNv ⟨xN_ok, hG.1⟩ zT_good C (t_A_clear hG hw) wn_A_clear nl_R_61 (by decide) rfl rfl (by decide) (by decide) pl_A_clear rfl rfl (Nat.le_of_ble_eq_true rfl) d_R_take_16 (fun h4 hw => ?_)
  refine z_iload_n C (i := 1) d_R_take_19 rfl rfl ?_
  refine z_if_ne C (tgt := 41) d_R_take_20 (by decide) (fun q => ?_) (fun q => ?_)
  · replace hw := hw.1 q
    refine z_le (lv2 := [none, some (.int r1), none]) (⟨rfl, trivial⟩) ?_
    exact w_R_take_41 hG C hr _ _ hw
  · replace hw := hw.2 q
    refine z_aload_n C (i := 0) d_R_take_23 rfl rfl ?_
    refine z_getR C (ci := 0) (j := 3) (F := cf_R) (by decide) rfl rfl in_R (by decide) fl_R_26 rfl d_R_take_24 ?_
    refine z_astore_n C (i := 2) d_R_take_27 rfl (by decide) rfl ?_
    refine z_aload_n C (i := 0) d_R_take_28 rfl rfl ?_
    refine z_aload_n C (i := 0) d_R_take_29 rfl rfl ?_
    refine z_getR C (ci := 0) (j := 4) (F := cf_R) (by decide) rfl rfl in_R (by decide) fl_R_30 rfl d_R_take_30 ?_
    refine z_putR C (ci := 0) (j := 3) (F := cf_R) ct_R (by decide) rfl rfl in_R ty_R nm_R (by decide) fl_R_26 rfl (ty := .object "RangeReckoner$Term") (by decide +kernel) (fun _ => rfl) (fun _ => rfl) rfl d_R_take_33 (fun h5 eh5 => ?_)
    replace hw := hw h5 eh5
    refine z_aload_n C (i := 0) d_R_take_36 rfl rfl ?_
    refine z_aload_n C (i := 2) d_R_take_37 rfl rfl ?_
    refine z_putR C (ci := 0) (j := 4) (F := cf_R) ct_R (by decide) rfl rfl in_R ty_R nm_R (by decide) fl_R_30 rfl (ty := .object "RangeReckoner$Term") (by decide +kernel) (fun _ => rfl) (fun _ => rfl) rfl d_R_take_38 (fun h6 eh6 => ?_)
    replace hw := hw h6 eh6
    refine z_le (lv2 := [none, some (.int r1), none]) (⟨rfl, trivial⟩) ?_
    exact w_R_take_41 hG C hr _ _ hw
theorem d_V_add_0 : decode prog_8_method_3_code 0 = .ok (.aload_n 0, 1) := by decide +kernel
theorem d_V_add_1 : decode prog_8_method_3_code 1 = .ok (.getfield 21, 3) := by decide +kernel
theorem d_V_add_4 : decode prog_8_method_3_code 4 = .ok (.bipush (20), 2) := by decide +kernel
theorem d_V_add_6 : decode prog_8_method_3_code 6 = .ok (.if_icmp .ge (20), 3) := by decide +kernel
theorem d_V_add_9 : decode prog_8_method_3_code 9 = .ok (.iload_n 1, 1) := by decide +kernel
theorem d_V_add_10 : decode prog_8_method_3_code 10 = .ok (.iload_n 2, 1) := by decide +kernel
theorem d_V_add_11 : decode prog_8_method_3_code 11 = .ok (.if_icmp .gt (15), 3) := by decide +kernel
theorem d_V_add_14 : decode prog_8_method_3_code 14 = .ok (.iload_n 1, 1) := by decide +kernel
theorem d_V_add_15 : decode prog_8_method_3_code 15 = .ok (.ldc 25, 2) := by decide +kernel
theorem d_V_add_17 : decode prog_8_method_3_code 17 = .ok (.if_icmp .lt (9), 3) := by decide +kernel
theorem d_V_add_20 : decode prog_8_method_3_code 20 = .ok (.iload_n 2, 1) := by decide +kernel
theorem d_V_add_21 : decode prog_8_method_3_code 21 = .ok (.ldc 26, 2) := by decide +kernel
theorem d_V_add_23 : decode prog_8_method_3_code 23 = .ok (.if_icmp .le (5), 3) := by decide +kernel
theorem d_V_add_26 : decode prog_8_method_3_code 26 = .ok (.iconst (-1), 1) := by decide +kernel
theorem d_V_add_27 : decode prog_8_method_3_code 27 = .ok (.ireturn, 1) := by decide +kernel
theorem d_V_add_28 : decode prog_8_method_3_code 28 = .ok (.aload_n 0, 1) := by decide +kernel
theorem d_V_add_29 : decode prog_8_method_3_code 29 = .ok (.getfield 9, 3) := by decide +kernel
theorem d_V_add_32 : decode prog_8_method_3_code 32 = .ok (.aload_n 0, 1) := by decide +kernel
theorem d_V_add_33 : decode prog_8_method_3_code 33 = .ok (.getfield 21, 3) := by decide +kernel
theorem d_V_add_36 : decode prog_8_method_3_code 36 = .ok (.iload_n 1, 1) := by decide +kernel
theorem d_V_add_37 : decode prog_8_method_3_code 37 = .ok (.iastore, 1) := by decide +kernel
theorem d_V_add_38 : decode prog_8_method_3_code 38 = .ok (.aload_n 0, 1) := by decide +kernel
theorem d_V_add_39 : decode prog_8_method_3_code 39 = .ok (.getfield 15, 3) := by decide +kernel
theorem d_V_add_42 : decode prog_8_method_3_code 42 = .ok (.aload_n 0, 1) := by decide +kernel
theorem d_V_add_43 : decode prog_8_method_3_code 43 = .ok (.getfield 21, 3) := by decide +kernel
theorem d_V_add_46 : decode prog_8_method_3_code 46 = .ok (.iload_n 2, 1) := by decide +kernel
theorem d_V_add_47 : decode prog_8_method_3_code 47 = .ok (.iastore, 1) := by decide +kernel
theorem d_V_add_48 : decode prog_8_method_3_code 48 = .ok (.aload_n 0, 1) := by decide +kernel
theorem d_V_add_49 : decode prog_8_method_3_code 49 = .ok (.getfield 18, 3) := by decide +kernel
theorem d_V_add_52 : decode prog_8_method_3_code 52 = .ok (.aload_n 0, 1) := by decide +kernel
theorem d_V_add_53 : decode prog_8_method_3_code 53 = .ok (.getfield 21, 3) := by decide +kernel
theorem d_V_add_56 : decode prog_8_method_3_code 56 = .ok (.iload_n 1, 1) := by decide +kernel
theorem d_V_add_57 : decode prog_8_method_3_code 57 = .ok (.iload_n 2, 1) := by decide +kernel
theorem d_V_add_58 : decode prog_8_method_3_code 58 = .ok (.iconst 0, 1) := by decide +kernel
theorem d_V_add_59 : decode prog_8_method_3_code 59 = .ok (.invokestatic 27, 3) := by decide +kernel
theorem d_V_add_62 : decode prog_8_method_3_code 62 = .ok (.invokestatic 33, 3) := by decide +kernel
theorem d_V_add_65 : decode prog_8_method_3_code 65 = .ok (.iastore, 1) := by decide +kernel
theorem d_V_add_66 : decode prog_8_method_3_code 66 = .ok (.aload_n 0, 1) := by decide +kernel
theorem d_V_add_67 : decode prog_8_method_3_code 67 = .ok (.dup, 1) := by decide +kernel
theorem d_V_add_68 : decode prog_8_method_3_code 68 = .ok (.getfield 21, 3) := by decide +kernel
theorem d_V_add_71 : decode prog_8_method_3_code 71 = .ok (.iconst 1, 1) := by decide +kernel
theorem d_V_add_72 : decode prog_8_method_3_code 72 = .ok (.iadd, 1) := by decide +kernel
theorem d_V_add_73 : decode prog_8_method_3_code 73 = .ok (.putfield 21, 3) := by decide +kernel
theorem d_V_add_76 : decode prog_8_method_3_code 76 = .ok (.aload_n 0, 1) := by decide +kernel
theorem d_V_add_77 : decode prog_8_method_3_code 77 = .ok (.getfield 21, 3) := by decide +kernel
theorem d_V_add_80 : decode prog_8_method_3_code 80 = .ok (.iconst 1, 1) := by decide +kernel
theorem d_V_add_81 : decode prog_8_method_3_code 81 = .ok (.isub, 1) := by decide +kernel
theorem d_V_add_82 : decode prog_8_method_3_code 82 = .ok (.ireturn, 1) := by decide +kernel
def b_V_add_26 (post : Int32 → zH → Prop) (h : zH) : Prop := post (-1) h
def wp_V_add (l1 : Int32) (l2 : Int32) (h : zH) (post : Int32 → zH → Prop) : Prop := ((20 ≤ (h.1 1 3) → b_V_add_26 post  h) ∧ (¬ 20 ≤ (h.1 1 3) → ((l2 < l1 → b_V_add_26 post  h) ∧ (¬ l2 < l1 → ((l1 < (-2000000000) → b_V_add_26 post  h) ∧ (¬ l1 < (-2000000000) → ((l2 ≤ 2000000000 → (vp_in (h.1 1 3) 20 ∧ ∀ h1 : zH, h1 = zi h 2 ((h.1 1 3) : Int32).toNatClampNeg l1 → (vp_in (h1.1 1 3) 20 ∧ ∀ h2 : zH, h2 = zi h1 3 ((h1.1 1 3) : Int32).toNatClampNeg l2 → (vp_in (h2.1 1 3) 20 ∧ ∀ h3 : zH, h3 = zi h2 4 ((h2.1 1 3) : Int32).toNatClampNeg (if l1 < (if 0 < l2 then 0 else l2) then (if 0 < l2 then 0 else l2) else l1) → (∀ h4 : zH, h4 = zi h3 1 3 ((h3.1 1 3) + 1) → post ((h4.1 1 3) - 1) h4))))) ∧ (¬ l2 ≤ 2000000000 → b_V_add_26 post  h))))))))
set_option maxRecDepth 100000 in
set_option maxHeartbeats 4000000 in
theorem w_V_add_26 {l : Launch} {E : zE} {G : (Nat → Prop) → State → Prop} {p : Program} {e : Env} {s : State} {m : MethodId} {args : Array Value} {below : List Frame} {meth : Method} {c : Code} {A : Nat → Prop} {post : Int32 → zH → Prop} (hG : xGG E G) (C : zCx p s m args meth c E G A 1 23 prog_8_method_3_code 3 cn_V) (hr : meth.sig.returnType = (some .int))  (h : zH) (hw : b_V_add_26 post  h) : zGo p l e s m args below meth c E A 1 23 3 (zPi post) h 26 [none, none, none] [] := by
  unfold b_V_add_26 at hw
  refine z_iconst C (v := (-1)) d_V_add_26 (by decide) ?_
  exact z_iret C hr d_V_add_27 hw
set_option maxRecDepth 100000 in
set_option maxHeartbeats 4000000 in
theorem t_V_add {l : Launch} {E : zE} {G : (Nat → Prop) → State → Prop} (hG : xGG E G) {l1 : Int32} {l2 : Int32} {h : zH} {post : Int32 → zH → Prop} (hw : wp_V_add l1 l2 h post) : Ct l xX E xcl xN zT G 1 23 y_V_add prog_8_method_3_code 3 (some .int) [.ref (E.2.2.1 1), .int l1, .int l2] h (zPi post) := by
  unfold wp_V_add at hw
  refine Ct.of (by decide) (Nat.le_of_ble_eq_true rfl) ?_
  intro p e s m below meth c A C hr
  refine z_lv (lv2 := [some (.ref (E.2.2.1 1)), some (.int l1), some (.int l2)]) rfl ?_
  refine z_aload_n C (i := 0) d_V_add_0 rfl rfl ?_
  refine z_getI C (ci := 1) (j := 3) (F := cf_V) (by decide) rfl rfl in_V (by decide) fl_V_21 rfl d_V_add_1 ?_
  refine z_bipush C (v := 20) d_V_add_4 (by decide) ?_
  refine z_icmp_ge C (tgt := 26) d_V_add_6 (by decide) (fun q => ?_) (fun q => ?_)
  · replace hw := hw.1 q
    refine z_le (lv2 := [none, none, none]) (trivial) ?_
    exact w_V_add_26 hG C hr  _ hw
  · replace hw := hw.2 q
    refine z_iload_n C (i := 1) d_V_add_9 rfl rfl ?_
    refine z_iload_n C (i := 2) d_V_add_10 rfl rfl ?_
    refine z_icmp_gt C (tgt := 26) d_V_add_11 (by decide) (fun q => ?_) (fun q => ?_)
    · replace hw := hw.1 q
      refine z_le (lv2 := [none, none, none]) (trivial) ?_
      exact w_V_add_26 hG C hr  _ hw
    · replace hw := hw.2 q
      refine z_iload_n C (i := 1) d_V_add_14 rfl rfl ?_
      refine z_ldc C (v := (-2000000000)) kc_V_25 d_V_add_15 ?_
      refine z_icmp_lt C (tgt := 26) d_V_add_17 (by decide) (fun q => ?_) (fun q => ?_)
      · replace hw := hw.1 q
        refine z_le (lv2 := [none, none, none]) (trivial) ?_
        exact w_V_add_26 hG C hr  _ hw
      · replace hw := hw.2 q
        refine z_iload_n C (i := 2) d_V_add_20 rfl rfl ?_
        refine z_ldc C (v := 2000000000) kc_V_26 d_V_add_21 ?_
        refine z_icmp_le C (tgt := 28) d_V_add_23 (by decide) (fun q => ?_) (fun q => ?_)
        · replace hw := hw.1 q
          refine z_aload_n C (i := 0) d_V_add_28 rfl rfl ?_
          refine z_getS C (ci := 1) (j := 0) (F := cf_V) (by decide) rfl rfl in_V (by decide) fl_V_9 rfl d_V_add_29 ?_
          refine z_aload_n C (i := 0) d_V_add_32 rfl rfl ?_
          refine z_getI C (ci := 1) (j := 3) (F := cf_V) (by decide) rfl rfl in_V (by decide) fl_V_21 rfl d_V_add_33 ?_
          refine z_iload_n C (i := 1) d_V_add_36 rfl rfl ?_
          refine z_iast C (by decide) rfl hw.1 d_V_add_37 (fun h1 eh1 => ?_)
          replace hw := hw.2 h1 eh1
          refine z_aload_n C (i := 0) d_V_add_38 rfl rfl ?_
          refine z_getS C (ci := 1) (j := 1) (F := cf_V) (by decide) rfl rfl in_V (by decide) fl_V_15 rfl d_V_add_39 ?_
          refine z_aload_n C (i := 0) d_V_add_42 rfl rfl ?_
          refine z_getI C (ci := 1) (j := 3) (F := cf_V) (by decide) rfl rfl in_V (by decide) fl_V_21 rfl d_V_add_43 ?_
          refine z_iload_n C (i := 2) d_V_add_46 rfl rfl ?_
          refine z_iast C (by decide) rfl hw.1 d_V_add_47 (fun h2 eh2 => ?_)
          replace hw := hw.2 h2 eh2
          refine z_aload_n C (i := 0) d_V_add_48 rfl rfl ?_
          refine z_getS C (ci := 1) (j := 2) (F := cf_V) (by decide) rfl rfl in_V (by decide) fl_V_18 rfl d_V_add_49 ?_
          refine z_aload_n C (i := 0) d_V_add_52 rfl rfl ?_
          refine z_getI C (ci := 1) (j := 3) (F := cf_V) (by decide) rfl rfl in_V (by decide) fl_V_21 rfl d_V_add_53 ?_
          refine z_iload_n C (i := 1) d_V_add_56 rfl rfl ?_
          refine z_iload_n C (i := 2) d_V_add_57 rfl rfl ?_
          refine z_iconst C (v := 0) d_V_add_58 (by decide) ?_
          refine z_mmin C ml_V_27 mk_Lib_Math_min_s mk_ini mk_Lib_Math_min_c (by decide) (Nat.le_of_ble_eq_true rfl) d_V_add_59 ?_
          refine z_mmax C ml_V_33 mk_Lib_Math_max_s mk_ini mk_Lib_Math_max_c (by decide) (Nat.le_of_ble_eq_true rfl) d_V_add_62 ?_
          refine z_iast C (by decide) rfl hw.1 d_V_add_65 (fun h3 eh3 => ?_)
          replace hw := hw.2 h3 eh3
          refine z_aload_n C (i := 0) d_V_add_66 rfl rfl ?_
          refine z_dup C d_V_add_67 rfl ?_
          refine z_getI C (ci := 1) (j := 3) (F := cf_V) (by decide) rfl rfl in_V (by decide) fl_V_21 rfl d_V_add_68 ?_
          refine z_iconst C (v := 1) d_V_add_71 (by decide) ?_
          refine z_iadd C d_V_add_72 ?_
          refine z_putI C (ci := 1) (j := 3) (F := cf_V) ct_V (by decide) rfl rfl in_V ty_V nm_V (by decide) fl_V_21 rfl (by decide +kernel) rfl d_V_add_73 (fun h4 eh4 => ?_)
          replace hw := hw h4 eh4
          refine z_aload_n C (i := 0) d_V_add_76 rfl rfl ?_
          refine z_getI C (ci := 1) (j := 3) (F := cf_V) (by decide) rfl rfl in_V (by decide) fl_V_21 rfl d_V_add_77 ?_
          refine z_iconst C (v := 1) d_V_add_80 (by decide) ?_
          refine z_isub C d_V_add_81 ?_
          exact z_iret C hr d_V_add_82 hw
        · replace hw := hw.2 q
          refine z_le (lv2 := [none, none, none]) (trivial) ?_
          exact w_V_add_26 hG C hr  _ hw
theorem d_R_variable_0 : decode prog_1_method_2_code 0 = .ok (.aload_n 0, 1) := by decide +kernel
theorem d_R_variable_1 : decode prog_1_method_2_code 1 = .ok (.getfield 12, 3) := by decide +kernel
theorem d_R_variable_4 : decode prog_1_method_2_code 4 = .ok (.iload_n 1, 1) := by decide +kernel
theorem d_R_variable_5 : decode prog_1_method_2_code 5 = .ok (.iload_n 2, 1) := by decide +kernel
theorem d_R_variable_6 : decode prog_1_method_2_code 6 = .ok (.invokevirtual 42, 3) := by decide +kernel
theorem d_R_variable_9 : decode prog_1_method_2_code 9 = .ok (.ireturn, 1) := by decide +kernel
def wp_R_variable (l1 : Int32) (l2 : Int32) (h : zH) (post : Int32 → zH → Prop) : Prop := wp_V_add (l1) (l2) h (fun (r1 : Int32) (h2 : zH) => post r1 h2)
set_option maxRecDepth 100000 in
set_option maxHeartbeats 4000000 in
theorem t_R_variable {l : Launch} {E : zE} {G : (Nat → Prop) → State → Prop} (hG : xGG E G) {l1 : Int32} {l2 : Int32} {h : zH} {post : Int32 → zH → Prop} (hw : wp_R_variable l1 l2 h post) : Ct l xX E xcl xN zT G 2 45 y_R_variable prog_1_method_2_code 3 (some .int) [.ref (E.2.2.1 0), .int l1, .int l2] h (zPi post) := by
  unfold wp_R_variable at hw
  refine Ct.of (by decide) (Nat.le_of_ble_eq_true rfl) ?_
  intro p e s m below meth c A C hr
  refine z_lv (lv2 := [some (.ref (E.2.2.1 0)), some (.int l1), some (.int l2)]) rfl ?_
  refine z_aload_n C (i := 0) d_R_variable_0 rfl rfl ?_
  refine z_getS C (ci := 0) (j := 0) (F := cf_R) (by decide) rfl rfl in_R (by decide) fl_R_12 rfl d_R_variable_1 ?_
  refine z_iload_n C (i := 1) d_R_variable_4 rfl rfl ?_
  refine z_iload_n C (i := 2) d_R_variable_5 rfl rfl ?_
  refine z_callVNi ⟨xN_ok, hG.1⟩ zT_good C (t_V_add hG hw) wn_V_add nl_R_42 (by decide) rfl rfl (by decide) (by decide) pl_V_add rfl rfl (Nat.le_of_ble_eq_true rfl) d_R_variable_6 (fun r1 h2 hw => ?_)
  exact z_iret C hr d_R_variable_9 hw
theorem d_R_width_0 : decode prog_1_method_8_code 0 = .ok (.aload_n 0, 1) := by decide +kernel
theorem d_R_width_1 : decode prog_1_method_8_code 1 = .ok (.getfield 26, 3) := by decide +kernel
theorem d_R_width_4 : decode prog_1_method_8_code 4 = .ok (.getfield 92, 3) := by decide +kernel
theorem d_R_width_7 : decode prog_1_method_8_code 7 = .ok (.ifCond .ne (7), 3) := by decide +kernel
theorem d_R_width_10 : decode prog_1_method_8_code 10 = .ok (.ldc2_w 95, 3) := by decide +kernel
theorem d_R_width_13 : decode prog_1_method_8_code 13 = .ok (.lreturn, 1) := by decide +kernel
theorem d_R_width_14 : decode prog_1_method_8_code 14 = .ok (.aload_n 0, 1) := by decide +kernel
theorem d_R_width_15 : decode prog_1_method_8_code 15 = .ok (.getfield 26, 3) := by decide +kernel
theorem d_R_width_18 : decode prog_1_method_8_code 18 = .ok (.getfield 92, 3) := by decide +kernel
theorem d_R_width_21 : decode prog_1_method_8_code 21 = .ok (.iconst 1, 1) := by decide +kernel
theorem d_R_width_22 : decode prog_1_method_8_code 22 = .ok (.isub, 1) := by decide +kernel
theorem d_R_width_23 : decode prog_1_method_8_code 23 = .ok (.istore_n 1, 1) := by decide +kernel
theorem d_R_width_24 : decode prog_1_method_8_code 24 = .ok (.aload_n 0, 1) := by decide +kernel
theorem d_R_width_25 : decode prog_1_method_8_code 25 = .ok (.getfield 26, 3) := by decide +kernel
theorem d_R_width_28 : decode prog_1_method_8_code 28 = .ok (.iload_n 1, 1) := by decide +kernel
theorem d_R_width_29 : decode prog_1_method_8_code 29 = .ok (.invokevirtual 78, 3) := by decide +kernel
theorem d_R_width_32 : decode prog_1_method_8_code 32 = .ok (.i2l, 1) := by decide +kernel
theorem d_R_width_33 : decode prog_1_method_8_code 33 = .ok (.aload_n 0, 1) := by decide +kernel
theorem d_R_width_34 : decode prog_1_method_8_code 34 = .ok (.getfield 26, 3) := by decide +kernel
theorem d_R_width_37 : decode prog_1_method_8_code 37 = .ok (.iload_n 1, 1) := by decide +kernel
theorem d_R_width_38 : decode prog_1_method_8_code 38 = .ok (.invokevirtual 75, 3) := by decide +kernel
theorem d_R_width_41 : decode prog_1_method_8_code 41 = .ok (.i2l, 1) := by decide +kernel
theorem d_R_width_42 : decode prog_1_method_8_code 42 = .ok (.lsub, 1) := by decide +kernel
theorem d_R_width_43 : decode prog_1_method_8_code 43 = .ok (.lconst 1, 1) := by decide +kernel
theorem d_R_width_44 : decode prog_1_method_8_code 44 = .ok (.ladd, 1) := by decide +kernel
theorem d_R_width_45 : decode prog_1_method_8_code 45 = .ok (.lreturn, 1) := by decide +kernel
def wp_R_width (h : zH) (post : Int64 → zH → Prop) : Prop := (xTm (h.2.2 0 3) ∧ ((¬ (h.1 (h.2.2 0 3) 10) = 0 → wp_T_highOf (h.2.2 0 3) (((h.1 (h.2.2 0 3) 10) - 1)) h (fun (r2 : Int32) (h3 : zH) => (xTm (h3.2.2 0 3) ∧ wp_T_lowOf (h3.2.2 0 3) (((h.1 (h.2.2 0 3) 10) - 1)) h3 (fun (r5 : Int32) (h6 : zH) => post (((r2 : Int32).toInt64 - (r5 : Int32).toInt64) + 1) h6)))) ∧ ((h.1 (h.2.2 0 3) 10) = 0 → post (-1) h)))
set_option maxRecDepth 100000 in
set_option maxHeartbeats 4000000 in
theorem t_R_width {l : Launch} {E : zE} {G : (Nat → Prop) → State → Prop} (hG : xGG E G) {h : zH} {post : Int64 → zH → Prop} (hw : wp_R_width  h post) : Ct l xX E xcl xN zT G 2 42 y_R_width prog_1_method_8_code 2 (some .long) [.ref (E.2.2.1 0)] h (zPl post) := by
  unfold wp_R_width at hw
  refine Ct.of (by decide) (Nat.le_of_ble_eq_true rfl) ?_
  intro p e s m below meth c A C hr
  refine z_lv (lv2 := [some (.ref (E.2.2.1 0)), none]) rfl ?_
  refine z_aload_n C (i := 0) d_R_width_0 rfl rfl ?_
  refine z_getR C (ci := 0) (j := 3) (F := cf_R) (by decide) rfl rfl in_R (by decide) fl_R_26 rfl d_R_width_1 ?_
  obtain ⟨hk1, hw⟩ := hw
  refine z_getIN C (ci := 3) (j := 10) (F := cf_T) (xTm_l0 hk1) (xTm_0 hk1) rfl in_T (by decide) fn_R_92 rfl d_R_width_4 ?_
  refine z_if_ne C (tgt := 14) d_R_width_7 (by decide) (fun q => ?_) (fun q => ?_)
  · replace hw := hw.1 q
    refine z_aload_n C (i := 0) d_R_width_14 rfl rfl ?_
    refine z_getR C (ci := 0) (j := 3) (F := cf_R) (by decide) rfl rfl in_R (by decide) fl_R_26 rfl d_R_width_15 ?_
    refine z_getIN C (ci := 3) (j := 10) (F := cf_T) (xTm_l0 hk1) (xTm_0 hk1) rfl in_T (by decide) fn_R_92 rfl d_R_width_18 ?_
    refine z_iconst C (v := 1) d_R_width_21 (by decide) ?_
    refine z_isub C d_R_width_22 ?_
    refine z_istore_n C (i := 1) d_R_width_23 rfl (by decide) rfl ?_
    refine z_aload_n C (i := 0) d_R_width_24 rfl rfl ?_
    refine z_getR C (ci := 0) (j := 3) (F := cf_R) (by decide) rfl rfl in_R (by decide) fl_R_26 rfl d_R_width_25 ?_
    refine z_iload_n C (i := 1) d_R_width_28 rfl rfl ?_
    refine z_callVNi ⟨xN_ok, hG.1⟩ zT_good C (t_T_highOf hG hw) wn_T_highOf nl_R_78 (xTm_l0 hk1) (xTm_0 hk1) rfl (by decide) (by decide) pl_T_highOf rfl rfl (Nat.le_of_ble_eq_true rfl) d_R_width_29 (fun r2 h3 hw => ?_)
    refine z_i2l C d_R_width_32 ?_
    refine z_aload_n C (i := 0) d_R_width_33 rfl rfl ?_
    refine z_getR C (ci := 0) (j := 3) (F := cf_R) (by decide) rfl rfl in_R (by decide) fl_R_26 rfl d_R_width_34 ?_
    refine z_iload_n C (i := 1) d_R_width_37 rfl rfl ?_
    obtain ⟨hk4, hw⟩ := hw
    refine z_callVNi ⟨xN_ok, hG.1⟩ zT_good C (t_T_lowOf hG hw) wn_T_lowOf nl_R_75 (xTm_l0 hk4) (xTm_0 hk4) rfl (by decide) (by decide) pl_T_lowOf rfl rfl (Nat.le_of_ble_eq_true rfl) d_R_width_38 (fun r5 h6 hw => ?_)
    refine z_i2l C d_R_width_41 ?_
    refine z_lsub C d_R_width_42 ?_
    refine z_lconst C (v := 1) d_R_width_43 (by decide) ?_
    refine z_ladd C d_R_width_44 ?_
    exact z_lret C hr d_R_width_45 hw
  · replace hw := hw.2 q
    refine z_ldc2 C (v := (-1)) kl_R_95 d_R_width_10 ?_
    exact z_lret C hr d_R_width_13 hw
