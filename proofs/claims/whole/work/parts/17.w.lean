theorem d_R_divides_0 : decode prog_1_method_14_code 0 = .ok (.iload_n 0, 1) := by decide +kernel
theorem d_R_divides_1 : decode prog_1_method_14_code 1 = .ok (.bipush (12), 2) := by decide +kernel
theorem d_R_divides_3 : decode prog_1_method_14_code 3 = .ok (.if_icmp .eq (9), 3) := by decide +kernel
theorem d_R_divides_6 : decode prog_1_method_14_code 6 = .ok (.iload_n 0, 1) := by decide +kernel
theorem d_R_divides_7 : decode prog_1_method_14_code 7 = .ok (.bipush (13), 2) := by decide +kernel
theorem d_R_divides_9 : decode prog_1_method_14_code 9 = .ok (.if_icmp .ne (7), 3) := by decide +kernel
theorem d_R_divides_12 : decode prog_1_method_14_code 12 = .ok (.iconst 1, 1) := by decide +kernel
theorem d_R_divides_13 : decode prog_1_method_14_code 13 = .ok (.goto (4), 3) := by decide +kernel
theorem d_R_divides_16 : decode prog_1_method_14_code 16 = .ok (.iconst 0, 1) := by decide +kernel
theorem d_R_divides_17 : decode prog_1_method_14_code 17 = .ok (.ireturn, 1) := by decide +kernel
def b_R_divides_17 (post : Int32 → zH → Prop) (s0 : Int32) (h : zH) : Prop := (narrow .boolean (.int s0) = .int s0 ∧ post s0 h)
def b_R_divides_12 (post : Int32 → zH → Prop) (h : zH) : Prop := b_R_divides_17 post (1) h
def wp_R_divides (l0 : Int32) (h : zH) (post : Int32 → zH → Prop) : Prop := ((l0 = 12 → b_R_divides_12 post  h) ∧ (¬ l0 = 12 → ((¬ l0 = 13 → b_R_divides_17 post (0) h) ∧ (l0 = 13 → b_R_divides_12 post  h))))
set_option maxRecDepth 100000 in
set_option maxHeartbeats 4000000 in
theorem w_R_divides_17 {l : Launch} {E : zE} {G : (Nat → Prop) → State → Prop} {p : Program} {e : Env} {s : State} {m : MethodId} {args : Array Value} {below : List Frame} {meth : Method} {c : Code} {A : Nat → Prop} {post : Int32 → zH → Prop} (hG : xGG E G) (C : zCx p s m args meth c E G A 0 0 prog_1_method_14_code 1 cn_R) (hr : meth.sig.returnType = (some .boolean))  (s0 : Int32) (h : zH) (hw : b_R_divides_17 post s0 h) : zGo p l e s m args below meth c E A 0 0 1 (zPi post) h 17 [none] [.int s0] := by
  unfold b_R_divides_17 at hw
  exact z_zret C hr hw.1 d_R_divides_17 hw.2
set_option maxRecDepth 100000 in
set_option maxHeartbeats 4000000 in
theorem w_R_divides_12 {l : Launch} {E : zE} {G : (Nat → Prop) → State → Prop} {p : Program} {e : Env} {s : State} {m : MethodId} {args : Array Value} {below : List Frame} {meth : Method} {c : Code} {A : Nat → Prop} {post : Int32 → zH → Prop} (hG : xGG E G) (C : zCx p s m args meth c E G A 0 0 prog_1_method_14_code 1 cn_R) (hr : meth.sig.returnType = (some .boolean))  (h : zH) (hw : b_R_divides_12 post  h) : zGo p l e s m args below meth c E A 0 0 1 (zPi post) h 12 [none] [] := by
  unfold b_R_divides_12 at hw
  refine z_iconst C (v := 1) d_R_divides_12 (by decide) ?_
  refine z_goto C (tgt := 17) d_R_divides_13 (by decide) ?_
  refine z_le (lv2 := [none]) (trivial) ?_
  exact w_R_divides_17 hG C hr _ _ hw
set_option maxRecDepth 100000 in
set_option maxHeartbeats 4000000 in
theorem t_R_divides {l : Launch} {E : zE} {G : (Nat → Prop) → State → Prop} (hG : xGG E G) {l0 : Int32} {h : zH} {post : Int32 → zH → Prop} (hw : wp_R_divides l0 h post) : Ct l xX E xcl xN zT G 0 0 y_R_divides prog_1_method_14_code 1 (some .boolean) [.int l0] h (zPi post) := by
  unfold wp_R_divides at hw
  refine Ct.of (by decide) (Nat.le_of_ble_eq_true rfl) ?_
  intro p e s m below meth c A C hr
  refine z_lv (lv2 := [some (.int l0)]) rfl ?_
  refine z_iload_n C (i := 0) d_R_divides_0 rfl rfl ?_
  refine z_bipush C (v := 12) d_R_divides_1 (by decide) ?_
  refine z_icmp_eq C (tgt := 12) d_R_divides_3 (by decide) (fun q => ?_) (fun q => ?_)
  · replace hw := hw.1 q
    refine z_le (lv2 := [none]) (trivial) ?_
    exact w_R_divides_12 hG C hr  _ hw
  · replace hw := hw.2 q
    refine z_iload_n C (i := 0) d_R_divides_6 rfl rfl ?_
    refine z_bipush C (v := 13) d_R_divides_7 (by decide) ?_
    refine z_icmp_ne C (tgt := 16) d_R_divides_9 (by decide) (fun q => ?_) (fun q => ?_)
    · replace hw := hw.1 q
      refine z_iconst C (v := 0) d_R_divides_16 (by decide) ?_
      refine z_le (lv2 := [none]) (trivial) ?_
      exact w_R_divides_17 hG C hr _ _ hw
    · replace hw := hw.2 q
      refine z_le (lv2 := [none]) (trivial) ?_
      exact w_R_divides_12 hG C hr  _ hw
theorem d_R_takesOne_0 : decode prog_1_method_12_code 0 = .ok (.iload_n 0, 1) := by decide +kernel
theorem d_R_takesOne_1 : decode prog_1_method_12_code 1 = .ok (.bipush (26), 2) := by decide +kernel
theorem d_R_takesOne_3 : decode prog_1_method_12_code 3 = .ok (.if_icmp .eq (15), 3) := by decide +kernel
theorem d_R_takesOne_6 : decode prog_1_method_12_code 6 = .ok (.iload_n 0, 1) := by decide +kernel
theorem d_R_takesOne_7 : decode prog_1_method_12_code 7 = .ok (.bipush (20), 2) := by decide +kernel
theorem d_R_takesOne_9 : decode prog_1_method_12_code 9 = .ok (.if_icmp .eq (9), 3) := by decide +kernel
theorem d_R_takesOne_12 : decode prog_1_method_12_code 12 = .ok (.iload_n 0, 1) := by decide +kernel
theorem d_R_takesOne_13 : decode prog_1_method_12_code 13 = .ok (.bipush (25), 2) := by decide +kernel
theorem d_R_takesOne_15 : decode prog_1_method_12_code 15 = .ok (.if_icmp .ne (7), 3) := by decide +kernel
theorem d_R_takesOne_18 : decode prog_1_method_12_code 18 = .ok (.iconst 1, 1) := by decide +kernel
theorem d_R_takesOne_19 : decode prog_1_method_12_code 19 = .ok (.goto (4), 3) := by decide +kernel
theorem d_R_takesOne_22 : decode prog_1_method_12_code 22 = .ok (.iconst 0, 1) := by decide +kernel
theorem d_R_takesOne_23 : decode prog_1_method_12_code 23 = .ok (.ireturn, 1) := by decide +kernel
def b_R_takesOne_23 (post : Int32 → zH → Prop) (s0 : Int32) (h : zH) : Prop := (narrow .boolean (.int s0) = .int s0 ∧ post s0 h)
def b_R_takesOne_18 (post : Int32 → zH → Prop) (h : zH) : Prop := b_R_takesOne_23 post (1) h
def wp_R_takesOne (l0 : Int32) (h : zH) (post : Int32 → zH → Prop) : Prop := ((l0 = 26 → b_R_takesOne_18 post  h) ∧ (¬ l0 = 26 → ((l0 = 20 → b_R_takesOne_18 post  h) ∧ (¬ l0 = 20 → ((¬ l0 = 25 → b_R_takesOne_23 post (0) h) ∧ (l0 = 25 → b_R_takesOne_18 post  h))))))
set_option maxRecDepth 100000 in
set_option maxHeartbeats 4000000 in
theorem w_R_takesOne_23 {l : Launch} {E : zE} {G : (Nat → Prop) → State → Prop} {p : Program} {e : Env} {s : State} {m : MethodId} {args : Array Value} {below : List Frame} {meth : Method} {c : Code} {A : Nat → Prop} {post : Int32 → zH → Prop} (hG : xGG E G) (C : zCx p s m args meth c E G A 0 0 prog_1_method_12_code 1 cn_R) (hr : meth.sig.returnType = (some .boolean))  (s0 : Int32) (h : zH) (hw : b_R_takesOne_23 post s0 h) : zGo p l e s m args below meth c E A 0 0 1 (zPi post) h 23 [none] [.int s0] := by
  unfold b_R_takesOne_23 at hw
  exact z_zret C hr hw.1 d_R_takesOne_23 hw.2
set_option maxRecDepth 100000 in
set_option maxHeartbeats 4000000 in
theorem w_R_takesOne_18 {l : Launch} {E : zE} {G : (Nat → Prop) → State → Prop} {p : Program} {e : Env} {s : State} {m : MethodId} {args : Array Value} {below : List Frame} {meth : Method} {c : Code} {A : Nat → Prop} {post : Int32 → zH → Prop} (hG : xGG E G) (C : zCx p s m args meth c E G A 0 0 prog_1_method_12_code 1 cn_R) (hr : meth.sig.returnType = (some .boolean))  (h : zH) (hw : b_R_takesOne_18 post  h) : zGo p l e s m args below meth c E A 0 0 1 (zPi post) h 18 [none] [] := by
  unfold b_R_takesOne_18 at hw
  refine z_iconst C (v := 1) d_R_takesOne_18 (by decide) ?_
  refine z_goto C (tgt := 23) d_R_takesOne_19 (by decide) ?_
  refine z_le (lv2 := [none]) (trivial) ?_
  exact w_R_takesOne_23 hG C hr _ _ hw
set_option maxRecDepth 100000 in
set_option maxHeartbeats 4000000 in
theorem t_R_takesOne {l : Launch} {E : zE} {G : (Nat → Prop) → State → Prop} (hG : xGG E G) {l0 : Int32} {h : zH} {post : Int32 → zH → Prop} (hw : wp_R_takesOne l0 h post) : Ct l xX E xcl xN zT G 0 0 y_R_takesOne prog_1_method_12_code 1 (some .boolean) [.int l0] h (zPi post) := by
  unfold wp_R_takesOne at hw
  refine Ct.of (by decide) (Nat.le_of_ble_eq_true rfl) ?_
  intro p e s m below meth c A C hr
  refine z_lv (lv2 := [some (.int l0)]) rfl ?_
  refine z_iload_n C (i := 0) d_R_takesOne_0 rfl rfl ?_
  refine z_bipush C (v := 26) d_R_takesOne_1 (by decide) ?_
  refine z_icmp_eq C (tgt := 18) d_R_takesOne_3 (by decide) (fun q => ?_) (fun q => ?_)
  · replace hw := hw.1 q
    refine z_le (lv2 := [none]) (trivial) ?_
    exact w_R_takesOne_18 hG C hr  _ hw
  · replace hw := hw.2 q
    refine z_iload_n C (i := 0) d_R_takesOne_6 rfl rfl ?_
    refine z_bipush C (v := 20) d_R_takesOne_7 (by decide) ?_
    refine z_icmp_eq C (tgt := 18) d_R_takesOne_9 (by decide) (fun q => ?_) (fun q => ?_)
    · replace hw := hw.1 q
      refine z_le (lv2 := [none]) (trivial) ?_
      exact w_R_takesOne_18 hG C hr  _ hw
    · replace hw := hw.2 q
      refine z_iload_n C (i := 0) d_R_takesOne_12 rfl rfl ?_
      refine z_bipush C (v := 25) d_R_takesOne_13 (by decide) ?_
      refine z_icmp_ne C (tgt := 22) d_R_takesOne_15 (by decide) (fun q => ?_) (fun q => ?_)
      · replace hw := hw.1 q
        refine z_iconst C (v := 0) d_R_takesOne_22 (by decide) ?_
        refine z_le (lv2 := [none]) (trivial) ?_
        exact w_R_takesOne_23 hG C hr _ _ hw
      · replace hw := hw.2 q
        refine z_le (lv2 := [none]) (trivial) ?_
        exact w_R_takesOne_18 hG C hr  _ hw
theorem d_T_highOf_0 : decode prog_6_method_8_code 0 = .ok (.aload_n 0, 1) := by decide +kernel
theorem d_T_highOf_1 : decode prog_6_method_8_code 1 = .ok (.getfield 24, 3) := by decide +kernel
theorem d_T_highOf_4 : decode prog_6_method_8_code 4 = .ok (.iload_n 1, 1) := by decide +kernel
theorem d_T_highOf_5 : decode prog_6_method_8_code 5 = .ok (.invokestatic 47, 3) := by decide +kernel
theorem d_T_highOf_8 : decode prog_6_method_8_code 8 = .ok (.ireturn, 1) := by decide +kernel
def wp_T_highOf (k : Nat) (l1 : Int32) (h : zH) (post : Int32 → zH → Prop) : Prop := xTm k ∧ wp_R_at (k + 5) 100 (l1) h (fun (r1 : Int32) (h2 : zH) => post r1 h2)
set_option maxRecDepth 100000 in
set_option maxHeartbeats 4000000 in
theorem t_T_highOf {l : Launch} {E : zE} {G : (Nat → Prop) → State → Prop} (hG : xGG E G) {k : Nat} {l1 : Int32} {h : zH} {post : Int32 → zH → Prop} (hw : wp_T_highOf k l1 h post) : Ct l xX E xcl xN zT G 1 21 y_T_highOf prog_6_method_8_code 2 (some .int) [.ref (E.2.2.1 k), .int l1] h (zPi post) := by
  unfold wp_T_highOf at hw
  obtain ⟨hk_k, hw⟩ := hw
  refine Ct.of (by decide) (Nat.le_of_ble_eq_true rfl) ?_
  intro p e s m below meth c A C hr
  refine z_lv (lv2 := [some (.ref (E.2.2.1 k)), some (.int l1)]) rfl ?_
  refine z_aload_n C (i := 0) d_T_highOf_0 rfl rfl ?_
  refine z_getK C (ci := 3) (j := 4) (F := cf_T) (xTm_l0 hk_k) (xTm_0 hk_k) rfl in_T (by decide) fl_T_24 rfl d_T_highOf_1 ?_
  refine z_iload_n C (i := 1) d_T_highOf_4 rfl rfl ?_
  refine z_callSNi ⟨xN_ok, hG.1⟩ zT_good C (t_R_at hG hw) wn_R_at nl_T_47 (by decide) (by decide) pl_R_at rfl rfl (Nat.le_of_ble_eq_true rfl) d_T_highOf_5 (fun r1 h2 hw => ?_)
  exact z_iret C hr d_T_highOf_8 hw
theorem d_T_lowOf_0 : decode prog_6_method_7_code 0 = .ok (.aload_n 0, 1) := by decide +kernel
theorem d_T_lowOf_1 : decode prog_6_method_7_code 1 = .ok (.getfield 21, 3) := by decide +kernel
theorem d_T_lowOf_4 : decode prog_6_method_7_code 4 = .ok (.iload_n 1, 1) := by decide +kernel
theorem d_T_lowOf_5 : decode prog_6_method_7_code 5 = .ok (.invokestatic 47, 3) := by decide +kernel
theorem d_T_lowOf_8 : decode prog_6_method_7_code 8 = .ok (.ireturn, 1) := by decide +kernel
def wp_T_lowOf (k : Nat) (l1 : Int32) (h : zH) (post : Int32 → zH → Prop) : Prop := xTm k ∧ wp_R_at (k + 4) 100 (l1) h (fun (r1 : Int32) (h2 : zH) => post r1 h2)
set_option maxRecDepth 100000 in
set_option maxHeartbeats 4000000 in
theorem t_T_lowOf {l : Launch} {E : zE} {G : (Nat → Prop) → State → Prop} (hG : xGG E G) {k : Nat} {l1 : Int32} {h : zH} {post : Int32 → zH → Prop} (hw : wp_T_lowOf k l1 h post) : Ct l xX E xcl xN zT G 1 21 y_T_lowOf prog_6_method_7_code 2 (some .int) [.ref (E.2.2.1 k), .int l1] h (zPi post) := by
  unfold wp_T_lowOf at hw
  obtain ⟨hk_k, hw⟩ := hw
  refine Ct.of (by decide) (Nat.le_of_ble_eq_true rfl) ?_
  intro p e s m below meth c A C hr
  refine z_lv (lv2 := [some (.ref (E.2.2.1 k)), some (.int l1)]) rfl ?_
  refine z_aload_n C (i := 0) d_T_lowOf_0 rfl rfl ?_
  refine z_getK C (ci := 3) (j := 3) (F := cf_T) (xTm_l0 hk_k) (xTm_0 hk_k) rfl in_T (by decide) fl_T_21 rfl d_T_lowOf_1 ?_
  refine z_iload_n C (i := 1) d_T_lowOf_4 rfl rfl ?_
  refine z_callSNi ⟨xN_ok, hG.1⟩ zT_good C (t_R_at hG hw) wn_R_at nl_T_47 (by decide) (by decide) pl_R_at rfl rfl (Nat.le_of_ble_eq_true rfl) d_T_lowOf_5 (fun r1 h2 hw => ?_)
  exact z_iret C hr d_T_lowOf_8 hw
theorem d_T_depthOf_0 : decode prog_6_method_9_code 0 = .ok (.aload_n 0, 1) := by decide +kernel
theorem d_T_depthOf_1 : decode prog_6_method_9_code 1 = .ok (.iload_n 1, 1) := by decide +kernel
theorem d_T_depthOf_2 : decode prog_6_method_9_code 2 = .ok (.invokevirtual 51, 3) := by decide +kernel
theorem d_T_depthOf_5 : decode prog_6_method_9_code 5 = .ok (.ifCond .eq (14), 3) := by decide +kernel
theorem d_T_depthOf_8 : decode prog_6_method_9_code 8 = .ok (.aload_n 0, 1) := by decide +kernel
theorem d_T_depthOf_9 : decode prog_6_method_9_code 9 = .ok (.getfield 36, 3) := by decide +kernel
theorem d_T_depthOf_12 : decode prog_6_method_9_code 12 = .ok (.iload_n 1, 1) := by decide +kernel
theorem d_T_depthOf_13 : decode prog_6_method_9_code 13 = .ok (.invokestatic 47, 3) := by decide +kernel
theorem d_T_depthOf_16 : decode prog_6_method_9_code 16 = .ok (.goto (4), 3) := by decide +kernel
theorem d_T_depthOf_19 : decode prog_6_method_9_code 19 = .ok (.iconst 0, 1) := by decide +kernel
theorem d_T_depthOf_20 : decode prog_6_method_9_code 20 = .ok (.ireturn, 1) := by decide +kernel
def b_T_depthOf_20 (k : Nat) (post : Int32 → zH → Prop) (s0 : Int32) (h : zH) : Prop := post s0 h
def wp_T_depthOf (k : Nat) (l1 : Int32) (h : zH) (post : Int32 → zH → Prop) : Prop := xTm k ∧ wp_T_has k (l1) h (fun (r1 : Int32) (h2 : zH) => ((r1 = 0 → b_T_depthOf_20 k post (0) h2) ∧ (¬ r1 = 0 → wp_R_at (k + 9) 100 (l1) h2 (fun (r3 : Int32) (h4 : zH) => b_T_depthOf_20 k post (r3) h4))))
set_option maxRecDepth 100000 in
set_option maxHeartbeats 4000000 in
theorem w_T_depthOf_20 {k : Nat} {l : Launch} {E : zE} {G : (Nat → Prop) → State → Prop} {p : Program} {e : Env} {s : State} {m : MethodId} {args : Array Value} {below : List Frame} {meth : Method} {c : Code} {A : Nat → Prop} {post : Int32 → zH → Prop} (hG : xGG E G) (C : zCx p s m args meth c E G A 1 21 prog_6_method_9_code 2 cn_T) (hr : meth.sig.returnType = (some .int)) (hk_k : xTm k)  (s0 : Int32) (h : zH) (hw : b_T_depthOf_20 k post s0 h) : zGo p l e s m args below meth c E A 1 21 2 (zPi post) h 20 [none, none] [.int s0] := by
  unfold b_T_depthOf_20 at hw
  exact z_iret C hr d_T_depthOf_20 hw
set_option maxRecDepth 100000 in
set_option maxHeartbeats 4000000 in
theorem t_T_depthOf {l : Launch} {E : zE} {G : (Nat → Prop) → State → Prop} (hG : xGG E G) {k : Nat} {l1 : Int32} {h : zH} {post : Int32 → zH → Prop} (hw : wp_T_depthOf k l1 h post) : Ct l xX E xcl xN zT G 1 21 y_T_depthOf prog_6_method_9_code 2 (some .int) [.ref (E.2.2.1 k), .int l1] h (zPi post) := by
  unfold wp_T_depthOf at hw
  obtain ⟨hk_k, hw⟩ := hw
  refine Ct.of (by decide) (Nat.le_of_ble_eq_true rfl) ?_
  intro p e s m below meth c A C hr
  refine z_lv (lv2 := [some (.ref (E.2.2.1 k)), some (.int l1)]) rfl ?_
  refine z_aload_n C (i := 0) d_T_depthOf_0 rfl rfl ?_
  refine z_iload_n C (i := 1) d_T_depthOf_1 rfl rfl ?_
  refine z_callVi ⟨xN_ok, hG.1⟩ zT_good C (t_T_has hG hw) ol_T_51 (xTm_l0 hk_k) (xTm_0 hk_k) rfl (by decide) (by decide) pl_T_has rfl rfl (Nat.le_of_ble_eq_true rfl) d_T_depthOf_2 (fun r1 h2 hw => ?_)
  refine z_if_eq C (tgt := 19) d_T_depthOf_5 (by decide) (fun q => ?_) (fun q => ?_)
  · replace hw := hw.1 q
    refine z_iconst C (v := 0) d_T_depthOf_19 (by decide) ?_
    refine z_le (lv2 := [none, none]) (trivial) ?_
    exact w_T_depthOf_20 hG C hr hk_k _ _ hw
  · replace hw := hw.2 q
    refine z_aload_n C (i := 0) d_T_depthOf_8 rfl rfl ?_
    refine z_getK C (ci := 3) (j := 8) (F := cf_T) (xTm_l0 hk_k) (xTm_0 hk_k) rfl in_T (by decide) fl_T_36 rfl d_T_depthOf_9 ?_
    refine z_iload_n C (i := 1) d_T_depthOf_12 rfl rfl ?_
    refine z_callSNi ⟨xN_ok, hG.1⟩ zT_good C (t_R_at hG hw) wn_R_at nl_T_47 (by decide) (by decide) pl_R_at rfl rfl (Nat.le_of_ble_eq_true rfl) d_T_depthOf_13 (fun r3 h4 hw => ?_)
    refine z_goto C (tgt := 20) d_T_depthOf_16 (by decide) ?_
    refine z_le (lv2 := [none, none]) (trivial) ?_
    exact w_T_depthOf_20 hG C hr hk_k _ _ hw
theorem d_T_tellTaken_0 : decode prog_6_method_12_code 0 = .ok (.aload_n 0, 1) := by decide +kernel
theorem d_T_tellTaken_1 : decode prog_6_method_12_code 1 = .ok (.getfield 43, 3) := by decide +kernel
theorem d_T_tellTaken_4 : decode prog_6_method_12_code 4 = .ok (.iconst 1, 1) := by decide +kernel
theorem d_T_tellTaken_5 : decode prog_6_method_12_code 5 = .ok (.isub, 1) := by decide +kernel
theorem d_T_tellTaken_6 : decode prog_6_method_12_code 6 = .ok (.istore_n 3, 1) := by decide +kernel
theorem d_T_tellTaken_7 : decode prog_6_method_12_code 7 = .ok (.aload_n 0, 1) := by decide +kernel
theorem d_T_tellTaken_8 : decode prog_6_method_12_code 8 = .ok (.iload_n 3, 1) := by decide +kernel
theorem d_T_tellTaken_9 : decode prog_6_method_12_code 9 = .ok (.invokevirtual 51, 3) := by decide +kernel
theorem d_T_tellTaken_12 : decode prog_6_method_12_code 12 = .ok (.ifCond .eq (70), 3) := by decide +kernel
theorem d_T_tellTaken_15 : decode prog_6_method_12_code 15 = .ok (.aload_n 0, 1) := by decide +kernel
theorem d_T_tellTaken_16 : decode prog_6_method_12_code 16 = .ok (.getfield 27, 3) := by decide +kernel
theorem d_T_tellTaken_19 : decode prog_6_method_12_code 19 = .ok (.iload_n 3, 1) := by decide +kernel
theorem d_T_tellTaken_20 : decode prog_6_method_12_code 20 = .ok (.iload_n 1, 1) := by decide +kernel
theorem d_T_tellTaken_21 : decode prog_6_method_12_code 21 = .ok (.iastore, 1) := by decide +kernel
theorem d_T_tellTaken_22 : decode prog_6_method_12_code 22 = .ok (.aload_n 0, 1) := by decide +kernel
theorem d_T_tellTaken_23 : decode prog_6_method_12_code 23 = .ok (.getfield 30, 3) := by decide +kernel
theorem d_T_tellTaken_26 : decode prog_6_method_12_code 26 = .ok (.iload_n 3, 1) := by decide +kernel
theorem d_T_tellTaken_27 : decode prog_6_method_12_code 27 = .ok (.iload_n 2, 1) := by decide +kernel
theorem d_T_tellTaken_28 : decode prog_6_method_12_code 28 = .ok (.iastore, 1) := by decide +kernel
theorem d_T_tellTaken_29 : decode prog_6_method_12_code 29 = .ok (.aload_n 0, 1) := by decide +kernel
theorem d_T_tellTaken_30 : decode prog_6_method_12_code 30 = .ok (.iload_n 1, 1) := by decide +kernel
theorem d_T_tellTaken_31 : decode prog_6_method_12_code 31 = .ok (.invokevirtual 59, 3) := by decide +kernel
theorem d_T_tellTaken_34 : decode prog_6_method_12_code 34 = .ok (.aload_n 0, 1) := by decide +kernel
theorem d_T_tellTaken_35 : decode prog_6_method_12_code 35 = .ok (.iload_n 2, 1) := by decide +kernel
theorem d_T_tellTaken_36 : decode prog_6_method_12_code 36 = .ok (.invokevirtual 59, 3) := by decide +kernel
theorem d_T_tellTaken_39 : decode prog_6_method_12_code 39 = .ok (.invokestatic 63, 3) := by decide +kernel
theorem d_T_tellTaken_42 : decode prog_6_method_12_code 42 = .ok (.istore 4, 2) := by decide +kernel
theorem d_T_tellTaken_44 : decode prog_6_method_12_code 44 = .ok (.aload_n 0, 1) := by decide +kernel
theorem d_T_tellTaken_45 : decode prog_6_method_12_code 45 = .ok (.getfield 9, 3) := by decide +kernel
theorem d_T_tellTaken_48 : decode prog_6_method_12_code 48 = .ok (.iload_n 3, 1) := by decide +kernel
theorem d_T_tellTaken_49 : decode prog_6_method_12_code 49 = .ok (.iaload, 1) := by decide +kernel
theorem d_T_tellTaken_50 : decode prog_6_method_12_code 50 = .ok (.bipush (7), 2) := by decide +kernel
theorem d_T_tellTaken_52 : decode prog_6_method_12_code 52 = .ok (.if_icmp .ne (20), 3) := by decide +kernel
theorem d_T_tellTaken_55 : decode prog_6_method_12_code 55 = .ok (.iload 4, 2) := by decide +kernel
theorem d_T_tellTaken_57 : decode prog_6_method_12_code 57 = .ok (.aload_n 0, 1) := by decide +kernel
theorem d_T_tellTaken_58 : decode prog_6_method_12_code 58 = .ok (.aload_n 0, 1) := by decide +kernel
theorem d_T_tellTaken_59 : decode prog_6_method_12_code 59 = .ok (.getfield 33, 3) := by decide +kernel
theorem d_T_tellTaken_62 : decode prog_6_method_12_code 62 = .ok (.iload_n 3, 1) := by decide +kernel
theorem d_T_tellTaken_63 : decode prog_6_method_12_code 63 = .ok (.iaload, 1) := by decide +kernel
theorem d_T_tellTaken_64 : decode prog_6_method_12_code 64 = .ok (.invokevirtual 59, 3) := by decide +kernel
theorem d_T_tellTaken_67 : decode prog_6_method_12_code 67 = .ok (.invokestatic 63, 3) := by decide +kernel
theorem d_T_tellTaken_70 : decode prog_6_method_12_code 70 = .ok (.istore 4, 2) := by decide +kernel
theorem d_T_tellTaken_72 : decode prog_6_method_12_code 72 = .ok (.aload_n 0, 1) := by decide +kernel
theorem d_T_tellTaken_73 : decode prog_6_method_12_code 73 = .ok (.getfield 36, 3) := by decide +kernel
theorem d_T_tellTaken_76 : decode prog_6_method_12_code 76 = .ok (.iload_n 3, 1) := by decide +kernel
theorem d_T_tellTaken_77 : decode prog_6_method_12_code 77 = .ok (.iload 4, 2) := by decide +kernel
theorem d_T_tellTaken_79 : decode prog_6_method_12_code 79 = .ok (.iconst 1, 1) := by decide +kernel
theorem d_T_tellTaken_80 : decode prog_6_method_12_code 80 = .ok (.iadd, 1) := by decide +kernel
theorem d_T_tellTaken_81 : decode prog_6_method_12_code 81 = .ok (.iastore, 1) := by decide +kernel
theorem d_T_tellTaken_82 : decode prog_6_method_12_code 82 = .ok (.return_, 1) := by decide +kernel
def b_T_tellTaken_82 (k : Nat) (post : zH → Prop) (h : zH) : Prop := post h
def b_T_tellTaken_72 (k : Nat) (post : zH → Prop) (l3 : Int32) (l4 : Int32) (h : zH) : Prop := (vp_in l3 100 ∧ ∀ h1 : zH, h1 = zi h (k + 9) (l3 : Int32).toNatClampNeg (l4 + 1) → b_T_tellTaken_82 k post  h1)
def wp_T_tellTaken (k : Nat) (l1 : Int32) (l2 : Int32) (h : zH) (post : zH → Prop) : Prop := xTm k ∧ wp_T_has k (((h.1 k 10) - 1)) h (fun (r2 : Int32) (h3 : zH) => ((r2 = 0 → b_T_tellTaken_82 k post  h3) ∧ (¬ r2 = 0 → (vp_in ((h.1 k 10) - 1) 100 ∧ ∀ h4 : zH, h4 = zi h3 (k + 6) (((h.1 k 10) - 1) : Int32).toNatClampNeg l1 → (vp_in ((h.1 k 10) - 1) 100 ∧ ∀ h5 : zH, h5 = zi h4 (k + 7) (((h.1 k 10) - 1) : Int32).toNatClampNeg l2 → wp_T_depthOf k (l1) h5 (fun (r6 : Int32) (h7 : zH) => wp_T_depthOf k (l2) h7 (fun (r8 : Int32) (h9 : zH) => (vp_in ((h.1 k 10) - 1) 100 ∧ ((¬ (h9.1 (k + 1) (((h.1 k 10) - 1) : Int32).toNatClampNeg) = 7 → b_T_tellTaken_72 k post (((h.1 k 10) - 1)) ((if r6 < r8 then r8 else r6)) h9) ∧ ((h9.1 (k + 1) (((h.1 k 10) - 1) : Int32).toNatClampNeg) = 7 → (vp_in ((h.1 k 10) - 1) 100 ∧ wp_T_depthOf k ((h9.1 (k + 8) (((h.1 k 10) - 1) : Int32).toNatClampNeg)) h9 (fun (r10 : Int32) (h11 : zH) => b_T_tellTaken_72 k post (((h.1 k 10) - 1)) ((if (if r6 < r8 then r8 else r6) < r10 then r10 else (if r6 < r8 then r8 else r6))) h11))))))))))))
set_option maxRecDepth 100000 in
set_option maxHeartbeats 4000000 in
theorem w_T_tellTaken_82 {k : Nat} {l : Launch} {E : zE} {G : (Nat → Prop) → State → Prop} {p : Program} {e : Env} {s : State} {m : MethodId} {args : Array Value} {below : List Frame} {meth : Method} {c : Code} {A : Nat → Prop} {post : zH → Prop} (hG : xGG E G) (C : zCx p s m args meth c E G A 2 42 prog_6_method_12_code 5 cn_T) (hr : meth.sig.returnType = none) (hk_k : xTm k)  (h : zH) (hw : b_T_tellTaken_82 k post  h) : zGo p l e s m args below meth c E A 2 42 5 (zPv post) h 82 [none, none, none, none, none] [] := by
  unfold b_T_tellTaken_82 at hw
  exact z_vret C hr d_T_tellTaken_82 hw
set_option maxRecDepth 100000 in
set_option maxHeartbeats 4000000 in
theorem w_T_tellTaken_72 {k : Nat} {l : Launch} {E : zE} {G : (Nat → Prop) → State → Prop} {p : Program} {e : Env} {s : State} {m : MethodId} {args : Array Value} {below : List Frame} {meth : Method} {c : Code} {A : Nat → Prop} {post : zH → Prop} (hG : xGG E G) (C : zCx p s m args meth c E G A 2 42 prog_6_method_12_code 5 cn_T) (hr : meth.sig.returnType = none) (hk_k : xTm k)  (l3 : Int32) (l4 : Int32) (h : zH) (hw : b_T_tellTaken_72 k post l3 l4 h) : zGo p l e s m args below meth c E A 2 42 5 (zPv post) h 72 [some (.ref (E.2.2.1 k)), none, none, some (.int l3), some (.int l4)] [] := by
  unfold b_T_tellTaken_72 at hw
  refine z_aload_n C (i := 0) d_T_tellTaken_72 rfl rfl ?_
  refine z_getK C (ci := 3) (j := 8) (F := cf_T) (xTm_l0 hk_k) (xTm_0 hk_k) rfl in_T (by decide) fl_T_36 rfl d_T_tellTaken_73 ?_
  refine z_iload_n C (i := 3) d_T_tellTaken_76 rfl rfl ?_
  refine z_iload C d_T_tellTaken_77 rfl ?_
  refine z_iconst C (v := 1) d_T_tellTaken_79 (by decide) ?_
  refine z_iadd C d_T_tellTaken_80 ?_
  refine z_iast C (xTm_l hk_k (by decide)) (xTm_9 hk_k) hw.1 d_T_tellTaken_81 (fun h1 eh1 => ?_)
  replace hw := hw.2 h1 eh1
  refine z_le (lv2 := [none, none, none, none, none]) (trivial) ?_
  exact w_T_tellTaken_82 hG C hr hk_k  _ hw
set_option maxRecDepth 100000 in
set_option maxHeartbeats 4000000 in
theorem t_T_tellTaken {l : Launch} {E : zE} {G : (Nat → Prop) → State → Prop} (hG : xGG E G) {k : Nat} {l1 : Int32} {l2 : Int32} {h : zH} {post : zH → Prop} (hw : wp_T_tellTaken k l1 l2 h post) : Ct l xX E xcl xN zT G 2 42 y_T_tellTaken prog_6_method_12_code 5 none [.ref (E.2.2.1 k), .int l1, .int l2] h (zPv post) := by
  unfold wp_T_tellTaken at hw
  obtain ⟨hk_k, hw⟩ := hw
  refine Ct.of (by decide) (Nat.le_of_ble_eq_true rfl) ?_
  intro p e s m below meth c A C hr
  refine z_lv (lv2 := [some (.ref (E.2.2.1 k)), some (.int l1), some (.int l2), none, none]) rfl ?_
  refine z_aload_n C (i := 0) d_T_tellTaken_0 rfl rfl ?_
  refine z_getI C (ci := 3) (j := 10) (F := cf_T) (xTm_l0 hk_k) (xTm_0 hk_k) rfl in_T (by decide) fl_T_43 rfl d_T_tellTaken_1 ?_
  refine z_iconst C (v := 1) d_T_tellTaken_4 (by decide) ?_
  refine z_isub C d_T_tellTaken_5 ?_
  refine z_istore_n C (i := 3) d_T_tellTaken_6 rfl (by decide) rfl ?_
  refine z_aload_n C (i := 0) d_T_tellTaken_7 rfl rfl ?_
  refine z_iload_n C (i := 3) d_T_tellTaken_8 rfl rfl ?_
  refine z_callVi ⟨xN_ok, hG.1⟩ zT_good C (t_T_has hG hw) ol_T_51 (xTm_l0 hk_k) (xTm_0 hk_k) rfl (by decide) (by decide) pl_T_has rfl rfl (Nat.le_of_ble_eq_true rfl) d_T_tellTaken_9 (fun r2 h3 hw => ?_)
  refine z_if_eq C (tgt := 82) d_T_tellTaken_12 (by decide) (fun q => ?_) (fun q => ?_)
  · replace hw := hw.1 q
    refine z_le (lv2 := [none, none, none, none, none]) (trivial) ?_
    exact w_T_tellTaken_82 hG C hr hk_k  _ hw
  · replace hw := hw.2 q
    refine z_aload_n C (i := 0) d_T_tellTaken_15 rfl rfl ?_
    refine z_getK C (ci := 3) (j := 5) (F := cf_T) (xTm_l0 hk_k) (xTm_0 hk_k) rfl in_T (by decide) fl_T_27 rfl d_T_tellTaken_16 ?_
    refine z_iload_n C (i := 3) d_T_tellTaken_19 rfl rfl ?_
    refine z_iload_n C (i := 1) d_T_tellTaken_20 rfl rfl ?_
    refine z_iast C (xTm_l hk_k (by decide)) (xTm_6 hk_k) hw.1 d_T_tellTaken_21 (fun h4 eh4 => ?_)
    replace hw := hw.2 h4 eh4
    refine z_aload_n C (i := 0) d_T_tellTaken_22 rfl rfl ?_
    refine z_getK C (ci := 3) (j := 6) (F := cf_T) (xTm_l0 hk_k) (xTm_0 hk_k) rfl in_T (by decide) fl_T_30 rfl d_T_tellTaken_23 ?_
    refine z_iload_n C (i := 3) d_T_tellTaken_26 rfl rfl ?_
    refine z_iload_n C (i := 2) d_T_tellTaken_27 rfl rfl ?_
    refine z_iast C (xTm_l hk_k (by decide)) (xTm_7 hk_k) hw.1 d_T_tellTaken_28 (fun h5 eh5 => ?_)
    replace hw := hw.2 h5 eh5
    refine z_aload_n C (i := 0) d_T_tellTaken_29 rfl rfl ?_
    refine z_iload_n C (i := 1) d_T_tellTaken_30 rfl rfl ?_
    refine z_callVi ⟨xN_ok, hG.1⟩ zT_good C (t_T_depthOf hG hw) ol_T_59 (xTm_l0 hk_k) (xTm_0 hk_k) rfl (by decide) (by decide) pl_T_depthOf rfl rfl (Nat.le_of_ble_eq_true rfl) d_T_tellTaken_31 (fun r6 h7 hw => ?_)
    refine z_aload_n C (i := 0) d_T_tellTaken_34 rfl rfl ?_
    refine z_iload_n C (i := 2) d_T_tellTaken_35 rfl rfl ?_
    refine z_callVi ⟨xN_ok, hG.1⟩ zT_good C (t_T_depthOf hG hw) ol_T_59 (xTm_l0 hk_k) (xTm_0 hk_k) rfl (by decide) (by decide) pl_T_depthOf rfl rfl (Nat.le_of_ble_eq_true rfl) d_T_tellTaken_36 (fun r8 h9 hw => ?_)
    refine z_mmax C ml_T_63 mk_Lib_Math_max_s mk_ini mk_Lib_Math_max_c (by decide) (Nat.le_of_ble_eq_true rfl) d_T_tellTaken_39 ?_
    refine z_istore C d_T_tellTaken_42 (by decide) rfl ?_
    refine z_aload_n C (i := 0) d_T_tellTaken_44 rfl rfl ?_
    refine z_getK C (ci := 3) (j := 0) (F := cf_T) (xTm_l0 hk_k) (xTm_0 hk_k) rfl in_T (by decide) fl_T_9 rfl d_T_tellTaken_45 ?_
    refine z_iload_n C (i := 3) d_T_tellTaken_48 rfl rfl ?_
    refine z_iald C (xTm_l hk_k (by decide)) (xTm_1 hk_k) hw.1 d_T_tellTaken_49 ?_
    replace hw := hw.2
    refine z_bipush C (v := 7) d_T_tellTaken_50 (by decide) ?_
    refine z_icmp_ne C (tgt := 72) d_T_tellTaken_52 (by decide) (fun q => ?_) (fun q => ?_)
    · replace hw := hw.1 q
      refine z_le (lv2 := [some (.ref (E.2.2.1 k)), none, none, some (.int ((h.1 k 10) - 1)), some (.int (if r6 < r8 then r8 else r6))]) (⟨rfl, ⟨rfl, ⟨rfl, trivial⟩⟩⟩) ?_
      exact w_T_tellTaken_72 hG C hr hk_k _ _ _ hw
    · replace hw := hw.2 q
      refine z_iload C d_T_tellTaken_55 rfl ?_
      refine z_aload_n C (i := 0) d_T_tellTaken_57 rfl rfl ?_
      refine z_aload_n C (i := 0) d_T_tellTaken_58 rfl rfl ?_
      refine z_getK C (ci := 3) (j := 7) (F := cf_T) (xTm_l0 hk_k) (xTm_0 hk_k) rfl in_T (by decide) fl_T_33 rfl d_T_tellTaken_59 ?_
      refine z_iload_n C (i := 3) d_T_tellTaken_62 rfl rfl ?_
      refine z_iald C (xTm_l hk_k (by decide)) (xTm_8 hk_k) hw.1 d_T_tellTaken_63 ?_
      replace hw := hw.2
      refine z_callVi ⟨xN_ok, hG.1⟩ zT_good C (t_T_depthOf hG hw) ol_T_59 (xTm_l0 hk_k) (xTm_0 hk_k) rfl (by decide) (by decide) pl_T_depthOf rfl rfl (Nat.le_of_ble_eq_true rfl) d_T_tellTaken_64 (fun r10 h11 hw => ?_)
      refine z_mmax C ml_T_63 mk_Lib_Math_max_s mk_ini mk_Lib_Math_max_c (by decide) (Nat.le_of_ble_eq_true rfl) d_T_tellTaken_67 ?_
      refine z_istore C d_T_tellTaken_70 (by decide) rfl ?_
      refine z_le (lv2 := [some (.ref (E.2.2.1 k)), none, none, some (.int ((h.1 k 10) - 1)), some (.int (if (if r6 < r8 then r8 else r6) < r10 then r10 else (if r6 < r8 then r8 else r6)))]) (⟨rfl, ⟨rfl, ⟨rfl, trivial⟩⟩⟩) ?_
      exact w_T_tellTaken_72 hG C hr hk_k _ _ _ hw
theorem d_P_combine_0 : decode prog_2_method_17_code 0 = .ok (.aload_n 0, 1) := by decide +kernel
theorem d_P_combine_1 : decode prog_2_method_17_code 1 = .ok (.getfield 12, 3) := by decide +kernel
theorem d_P_combine_4 : decode prog_2_method_17_code 4 = .ok (.invokevirtual 173, 3) := by decide +kernel
theorem d_P_combine_7 : decode prog_2_method_17_code 7 = .ok (.istore_n 1, 1) := by decide +kernel
theorem d_P_combine_8 : decode prog_2_method_17_code 8 = .ok (.aload_n 0, 1) := by decide +kernel
theorem d_P_combine_9 : decode prog_2_method_17_code 9 = .ok (.getfield 12, 3) := by decide +kernel
theorem d_P_combine_12 : decode prog_2_method_17_code 12 = .ok (.invokevirtual 200, 3) := by decide +kernel
theorem d_P_combine_15 : decode prog_2_method_17_code 15 = .ok (.istore_n 2, 1) := by decide +kernel
theorem d_P_combine_16 : decode prog_2_method_17_code 16 = .ok (.aload_n 0, 1) := by decide +kernel
theorem d_P_combine_17 : decode prog_2_method_17_code 17 = .ok (.getfield 12, 3) := by decide +kernel
theorem d_P_combine_20 : decode prog_2_method_17_code 20 = .ok (.invokevirtual 196, 3) := by decide +kernel
theorem d_P_combine_23 : decode prog_2_method_17_code 23 = .ok (.aload_n 0, 1) := by decide +kernel
theorem d_P_combine_24 : decode prog_2_method_17_code 24 = .ok (.invokevirtual 203, 3) := by decide +kernel
theorem d_P_combine_27 : decode prog_2_method_17_code 27 = .ok (.istore_n 3, 1) := by decide +kernel
theorem d_P_combine_28 : decode prog_2_method_17_code 28 = .ok (.iload_n 1, 1) := by decide +kernel
theorem d_P_combine_29 : decode prog_2_method_17_code 29 = .ok (.invokestatic 206, 3) := by decide +kernel
theorem d_P_combine_32 : decode prog_2_method_17_code 32 = .ok (.ifCond .eq (7), 3) := by decide +kernel
theorem d_P_combine_35 : decode prog_2_method_17_code 35 = .ok (.iload_n 3, 1) := by decide +kernel
theorem d_P_combine_36 : decode prog_2_method_17_code 36 = .ok (.goto (7), 3) := by decide +kernel
theorem d_P_combine_39 : decode prog_2_method_17_code 39 = .ok (.aload_n 0, 1) := by decide +kernel
theorem d_P_combine_40 : decode prog_2_method_17_code 40 = .ok (.invokevirtual 203, 3) := by decide +kernel
theorem d_P_combine_43 : decode prog_2_method_17_code 43 = .ok (.istore 4, 2) := by decide +kernel
theorem d_P_combine_45 : decode prog_2_method_17_code 45 = .ok (.iload_n 1, 1) := by decide +kernel
theorem d_P_combine_46 : decode prog_2_method_17_code 46 = .ok (.bipush (7), 2) := by decide +kernel
theorem d_P_combine_48 : decode prog_2_method_17_code 48 = .ok (.if_icmp .ne (10), 3) := by decide +kernel
theorem d_P_combine_51 : decode prog_2_method_17_code 51 = .ok (.aload_n 0, 1) := by decide +kernel
theorem d_P_combine_52 : decode prog_2_method_17_code 52 = .ok (.invokevirtual 203, 3) := by decide +kernel
theorem d_P_combine_55 : decode prog_2_method_17_code 55 = .ok (.goto (4), 3) := by decide +kernel
theorem d_P_combine_58 : decode prog_2_method_17_code 58 = .ok (.iconst (-1), 1) := by decide +kernel
theorem d_P_combine_59 : decode prog_2_method_17_code 59 = .ok (.istore 5, 2) := by decide +kernel
theorem d_P_combine_61 : decode prog_2_method_17_code 61 = .ok (.aload_n 0, 1) := by decide +kernel
theorem d_P_combine_62 : decode prog_2_method_17_code 62 = .ok (.getfield 29, 3) := by decide +kernel
theorem d_P_combine_65 : decode prog_2_method_17_code 65 = .ok (.aload_n 0, 1) := by decide +kernel
theorem d_P_combine_66 : decode prog_2_method_17_code 66 = .ok (.getfield 58, 3) := by decide +kernel
theorem d_P_combine_69 : decode prog_2_method_17_code 69 = .ok (.iload 4, 2) := by decide +kernel
theorem d_P_combine_71 : decode prog_2_method_17_code 71 = .ok (.invokevirtual 209, 3) := by decide +kernel
theorem d_P_combine_74 : decode prog_2_method_17_code 74 = .ok (.i2l, 1) := by decide +kernel
theorem d_P_combine_75 : decode prog_2_method_17_code 75 = .ok (.aload_n 0, 1) := by decide +kernel
theorem d_P_combine_76 : decode prog_2_method_17_code 76 = .ok (.getfield 58, 3) := by decide +kernel
theorem d_P_combine_79 : decode prog_2_method_17_code 79 = .ok (.iload 4, 2) := by decide +kernel
theorem d_P_combine_81 : decode prog_2_method_17_code 81 = .ok (.invokevirtual 210, 3) := by decide +kernel
theorem d_P_combine_84 : decode prog_2_method_17_code 84 = .ok (.i2l, 1) := by decide +kernel
theorem d_P_combine_85 : decode prog_2_method_17_code 85 = .ok (.invokevirtual 96, 3) := by decide +kernel
theorem d_P_combine_88 : decode prog_2_method_17_code 88 = .ok (.aload_n 0, 1) := by decide +kernel
theorem d_P_combine_89 : decode prog_2_method_17_code 89 = .ok (.getfield 33, 3) := by decide +kernel
theorem d_P_combine_92 : decode prog_2_method_17_code 92 = .ok (.aload_n 0, 1) := by decide +kernel
theorem d_P_combine_93 : decode prog_2_method_17_code 93 = .ok (.getfield 58, 3) := by decide +kernel
theorem d_P_combine_96 : decode prog_2_method_17_code 96 = .ok (.iload_n 3, 1) := by decide +kernel
theorem d_P_combine_97 : decode prog_2_method_17_code 97 = .ok (.invokevirtual 209, 3) := by decide +kernel
theorem d_P_combine_100 : decode prog_2_method_17_code 100 = .ok (.i2l, 1) := by decide +kernel
theorem d_P_combine_101 : decode prog_2_method_17_code 101 = .ok (.aload_n 0, 1) := by decide +kernel
theorem d_P_combine_102 : decode prog_2_method_17_code 102 = .ok (.getfield 58, 3) := by decide +kernel
theorem d_P_combine_105 : decode prog_2_method_17_code 105 = .ok (.iload_n 3, 1) := by decide +kernel
theorem d_P_combine_106 : decode prog_2_method_17_code 106 = .ok (.invokevirtual 210, 3) := by decide +kernel
theorem d_P_combine_109 : decode prog_2_method_17_code 109 = .ok (.i2l, 1) := by decide +kernel
theorem d_P_combine_110 : decode prog_2_method_17_code 110 = .ok (.invokevirtual 96, 3) := by decide +kernel
theorem d_P_combine_113 : decode prog_2_method_17_code 113 = .ok (.aload_n 0, 1) := by decide +kernel
theorem d_P_combine_114 : decode prog_2_method_17_code 114 = .ok (.iload_n 1, 1) := by decide +kernel
theorem d_P_combine_115 : decode prog_2_method_17_code 115 = .ok (.iload 4, 2) := by decide +kernel
theorem d_P_combine_117 : decode prog_2_method_17_code 117 = .ok (.iload_n 3, 1) := by decide +kernel
theorem d_P_combine_118 : decode prog_2_method_17_code 118 = .ok (.iload 5, 2) := by decide +kernel
theorem d_P_combine_120 : decode prog_2_method_17_code 120 = .ok (.invokevirtual 211, 3) := by decide +kernel
theorem d_P_combine_123 : decode prog_2_method_17_code 123 = .ok (.ifCond .ne (10), 3) := by decide +kernel
theorem d_P_combine_126 : decode prog_2_method_17_code 126 = .ok (.aload_n 0, 1) := by decide +kernel
theorem d_P_combine_127 : decode prog_2_method_17_code 127 = .ok (.iconst 2, 1) := by decide +kernel
theorem d_P_combine_128 : decode prog_2_method_17_code 128 = .ok (.iload_n 2, 1) := by decide +kernel
theorem d_P_combine_129 : decode prog_2_method_17_code 129 = .ok (.invokevirtual 114, 3) := by decide +kernel
theorem d_P_combine_132 : decode prog_2_method_17_code 132 = .ok (.return_, 1) := by decide +kernel
theorem d_P_combine_133 : decode prog_2_method_17_code 133 = .ok (.iload_n 1, 1) := by decide +kernel
theorem d_P_combine_134 : decode prog_2_method_17_code 134 = .ok (.invokestatic 215, 3) := by decide +kernel
theorem d_P_combine_137 : decode prog_2_method_17_code 137 = .ok (.ifCond .eq (20), 3) := by decide +kernel
theorem d_P_combine_140 : decode prog_2_method_17_code 140 = .ok (.aload_n 0, 1) := by decide +kernel
theorem d_P_combine_141 : decode prog_2_method_17_code 141 = .ok (.getfield 33, 3) := by decide +kernel
theorem d_P_combine_144 : decode prog_2_method_17_code 144 = .ok (.invokevirtual 218, 3) := by decide +kernel
theorem d_P_combine_147 : decode prog_2_method_17_code 147 = .ok (.ifCond .eq (10), 3) := by decide +kernel
theorem d_P_combine_150 : decode prog_2_method_17_code 150 = .ok (.aload_n 0, 1) := by decide +kernel
theorem d_P_combine_151 : decode prog_2_method_17_code 151 = .ok (.iconst 3, 1) := by decide +kernel
theorem d_P_combine_152 : decode prog_2_method_17_code 152 = .ok (.iload_n 2, 1) := by decide +kernel
theorem d_P_combine_153 : decode prog_2_method_17_code 153 = .ok (.invokevirtual 114, 3) := by decide +kernel
theorem d_P_combine_156 : decode prog_2_method_17_code 156 = .ok (.return_, 1) := by decide +kernel
theorem d_P_combine_157 : decode prog_2_method_17_code 157 = .ok (.aload_n 0, 1) := by decide +kernel
theorem d_P_combine_158 : decode prog_2_method_17_code 158 = .ok (.getfield 36, 3) := by decide +kernel
theorem d_P_combine_161 : decode prog_2_method_17_code 161 = .ok (.iload_n 1, 1) := by decide +kernel
theorem d_P_combine_162 : decode prog_2_method_17_code 162 = .ok (.aload_n 0, 1) := by decide +kernel
theorem d_P_combine_163 : decode prog_2_method_17_code 163 = .ok (.getfield 29, 3) := by decide +kernel
theorem d_P_combine_166 : decode prog_2_method_17_code 166 = .ok (.aload_n 0, 1) := by decide +kernel
theorem d_P_combine_167 : decode prog_2_method_17_code 167 = .ok (.getfield 33, 3) := by decide +kernel
theorem d_P_combine_170 : decode prog_2_method_17_code 170 = .ok (.invokevirtual 221, 3) := by decide +kernel
theorem d_P_combine_173 : decode prog_2_method_17_code 173 = .ok (.aload_n 0, 1) := by decide +kernel
theorem d_P_combine_174 : decode prog_2_method_17_code 174 = .ok (.getfield 36, 3) := by decide +kernel
theorem d_P_combine_177 : decode prog_2_method_17_code 177 = .ok (.invokevirtual 225, 3) := by decide +kernel
theorem d_P_combine_180 : decode prog_2_method_17_code 180 = .ok (.ifCond .eq (10), 3) := by decide +kernel
theorem d_P_combine_183 : decode prog_2_method_17_code 183 = .ok (.aload_n 0, 1) := by decide +kernel
theorem d_P_combine_184 : decode prog_2_method_17_code 184 = .ok (.iconst 4, 1) := by decide +kernel
theorem d_P_combine_185 : decode prog_2_method_17_code 185 = .ok (.iload_n 2, 1) := by decide +kernel
theorem d_P_combine_186 : decode prog_2_method_17_code 186 = .ok (.invokevirtual 114, 3) := by decide +kernel
theorem d_P_combine_189 : decode prog_2_method_17_code 189 = .ok (.return_, 1) := by decide +kernel
theorem d_P_combine_190 : decode prog_2_method_17_code 190 = .ok (.aload_n 0, 1) := by decide +kernel
theorem d_P_combine_191 : decode prog_2_method_17_code 191 = .ok (.iload_n 1, 1) := by decide +kernel
theorem d_P_combine_192 : decode prog_2_method_17_code 192 = .ok (.iload_n 2, 1) := by decide +kernel
theorem d_P_combine_193 : decode prog_2_method_17_code 193 = .ok (.aload_n 0, 1) := by decide +kernel
theorem d_P_combine_194 : decode prog_2_method_17_code 194 = .ok (.iload_n 1, 1) := by decide +kernel
theorem d_P_combine_195 : decode prog_2_method_17_code 195 = .ok (.iload_n 3, 1) := by decide +kernel
theorem d_P_combine_196 : decode prog_2_method_17_code 196 = .ok (.invokevirtual 228, 3) := by decide +kernel
theorem d_P_combine_199 : decode prog_2_method_17_code 199 = .ok (.iload 5, 2) := by decide +kernel
theorem d_P_combine_201 : decode prog_2_method_17_code 201 = .ok (.invokevirtual 103, 3) := by decide +kernel
theorem d_P_combine_204 : decode prog_2_method_17_code 204 = .ok (.aload_n 0, 1) := by decide +kernel
theorem d_P_combine_205 : decode prog_2_method_17_code 205 = .ok (.getfield 42, 3) := by decide +kernel
theorem d_P_combine_208 : decode prog_2_method_17_code 208 = .ok (.ifCond .ne (13), 3) := by decide +kernel
theorem d_P_combine_211 : decode prog_2_method_17_code 211 = .ok (.aload_n 0, 1) := by decide +kernel
theorem d_P_combine_212 : decode prog_2_method_17_code 212 = .ok (.getfield 58, 3) := by decide +kernel
theorem d_P_combine_215 : decode prog_2_method_17_code 215 = .ok (.iload 4, 2) := by decide +kernel
theorem d_P_combine_217 : decode prog_2_method_17_code 217 = .ok (.iload_n 3, 1) := by decide +kernel
theorem d_P_combine_218 : decode prog_2_method_17_code 218 = .ok (.invokevirtual 232, 3) := by decide +kernel
theorem d_P_combine_221 : decode prog_2_method_17_code 221 = .ok (.return_, 1) := by decide +kernel
def b_P_combine_221 (post : zH → Prop) (h : zH) : Prop := post h
def b_P_combine_157 (post : zH → Prop) (l1 : Int32) (l2 : Int32) (l3 : Int32) (l4 : Int32) (l5 : Int32) (h : zH) : Prop := wp_N_reckon 38 (l1) 36 37 h (fun (h2 : zH) => wp_N_isBeyond 38 h2 (fun (r3 : Int32) (h4 : zH) => ((r3 = 0 → wp_P_kindGiven (l1) (l3) h4 (fun (r5 : Int32) (h6 : zH) => wp_P_addPart (l1) (l2) (r5) (l5) h6 (fun (h8 : zH) => ((¬ (h8.1 29 10) = 0 → b_P_combine_221 post  h8) ∧ ((h8.1 29 10) = 0 → (xTm (h8.2.2 29 8) ∧ wp_T_tellTaken (h8.2.2 29 8) (l4) (l3) h8 (fun (h11 : zH) => b_P_combine_221 post  h11))))))) ∧ (¬ r3 = 0 → wp_P_blame (4) (l2) h4 (fun (h13 : zH) => post h13)))))
def b_P_combine_59 (post : zH → Prop) (l1 : Int32) (l2 : Int32) (l3 : Int32) (l4 : Int32) (s0 : Int32) (h : zH) : Prop := (xTm (h.2.2 29 8) ∧ wp_T_lowOf (h.2.2 29 8) (l4) h (fun (r15 : Int32) (h16 : zH) => (xTm (h16.2.2 29 8) ∧ wp_T_highOf (h16.2.2 29 8) (l4) h16 (fun (r18 : Int32) (h19 : zH) => wp_N_put 36 ((r15 : Int32).toInt64) ((r18 : Int32).toInt64) h19 (fun (h21 : zH) => (xTm (h21.2.2 29 8) ∧ wp_T_lowOf (h21.2.2 29 8) (l3) h21 (fun (r23 : Int32) (h24 : zH) => (xTm (h24.2.2 29 8) ∧ wp_T_highOf (h24.2.2 29 8) (l3) h24 (fun (r26 : Int32) (h27 : zH) => wp_N_put 37 ((r23 : Int32).toInt64) ((r26 : Int32).toInt64) h27 (fun (h29 : zH) => wp_P_kindsFit (l1) (l4) (l3) (s0) h29 (fun (r30 : Int32) (h31 : zH) => ((¬ r30 = 0 → wp_R_divides (l1) h31 (fun (r32 : Int32) (h33 : zH) => ((r32 = 0 → b_P_combine_157 post (l1) (l2) (l3) (l4) (s0) h33) ∧ (¬ r32 = 0 → wp_N_hasZero 37 h33 (fun (r34 : Int32) (h35 : zH) => ((r34 = 0 → b_P_combine_157 post (l1) (l2) (l3) (l4) (s0) h35) ∧ (¬ r34 = 0 → wp_P_blame (3) (l2) h35 (fun (h37 : zH) => post h37)))))))) ∧ (r30 = 0 → wp_P_blame (2) (l2) h31 (fun (h39 : zH) => post h39))))))))))))))
def b_P_combine_43 (post : zH → Prop) (l1 : Int32) (l2 : Int32) (l3 : Int32) (s0 : Int32) (h : zH) : Prop := ((¬ l1 = 7 → b_P_combine_59 post (l1) (l2) (l3) (s0) ((-1)) h) ∧ (l1 = 7 → wp_P_popLoose  h (fun (r40 : Int32) (h41 : zH) => b_P_combine_59 post (l1) (l2) (l3) (s0) (r40) h41)))
def wp_P_combine (h : zH) (post : zH → Prop) : Prop := wp_G_topCode  h (fun (r42 : Int32) (h43 : zH) => wp_G_topPlace  h43 (fun (r44 : Int32) (h45 : zH) => wp_G_pop  h45 (fun (h47 : zH) => wp_P_popLoose  h47 (fun (r48 : Int32) (h49 : zH) => wp_R_takesOne (r42) h49 (fun (r50 : Int32) (h51 : zH) => ((r50 = 0 → wp_P_popLoose  h51 (fun (r52 : Int32) (h53 : zH) => b_P_combine_43 post (r42) (r44) (r48) (r52) h53)) ∧ (¬ r50 = 0 → b_P_combine_43 post (r42) (r44) (r48) (r48) h51)))))))
set_option maxRecDepth 100000 in
set_option maxHeartbeats 4000000 in
theorem w_P_combine_221 {l : Launch} {E : zE} {G : (Nat → Prop) → State → Prop} {p : Program} {e : Env} {s : State} {m : MethodId} {args : Array Value} {below : List Frame} {meth : Method} {c : Code} {A : Nat → Prop} {post : zH → Prop} (hG : xGG E G) (C : zCx p s m args meth c E G A 3 74 prog_2_method_17_code 6 cn_P) (hr : meth.sig.returnType = none)  (h : zH) (hw : b_P_combine_221 post  h) : zGo p l e s m args below meth c E A 3 74 6 (zPv post) h 221 [none, none, none, none, none, none] [] := by
  unfold b_P_combine_221 at hw
  exact z_vret C hr d_P_combine_221 hw
set_option maxRecDepth 100000 in
set_option maxHeartbeats 4000000 in
theorem w_P_combine_157 {l : Launch} {E : zE} {G : (Nat → Prop) → State → Prop} {p : Program} {e : Env} {s : State} {m : MethodId} {args : Array Value} {below : List Frame} {meth : Method} {c : Code} {A : Nat → Prop} {post : zH → Prop} (hG : xGG E G) (C : zCx p s m args meth c E G A 3 74 prog_2_method_17_code 6 cn_P) (hr : meth.sig.returnType = none)  (l1 : Int32) (l2 : Int32) (l3 : Int32) (l4 : Int32) (l5 : Int32) (h : zH) (hw : b_P_combine_157 post l1 l2 l3 l4 l5 h) : zGo p l e s m args below meth c E A 3 74 6 (zPv post) h 157 [some (.ref (E.2.2.1 29)), some (.int l1), some (.int l2), some (.int l3), some (.int l4), some (.int l5)] [] := by
  unfold b_P_combine_157 at hw
  refine z_aload_n C (i := 0) d_P_combine_157 rfl rfl ?_
  refine z_getS C (ci := 4) (j := 7) (F := cf_P) (by decide) rfl rfl in_P (by decide) fl_P_36 rfl d_P_combine_158 ?_
  refine z_iload_n C (i := 1) d_P_combine_161 rfl rfl ?_
  refine z_aload_n C (i := 0) d_P_combine_162 rfl rfl ?_
  refine z_getS C (ci := 4) (j := 5) (F := cf_P) (by decide) rfl rfl in_P (by decide) fl_P_29 rfl d_P_combine_163 ?_
  refine z_aload_n C (i := 0) d_P_combine_166 rfl rfl ?_
  refine z_getS C (ci := 4) (j := 6) (F := cf_P) (by decide) rfl rfl in_P (by decide) fl_P_33 rfl d_P_combine_167 ?_
  refine z_callVNv ⟨xN_ok, hG.1⟩ zT_good C (t_N_reckon hG hw) wn_N_reckon nl_P_221 (by decide) rfl rfl (by decide) (by decide) pl_N_reckon rfl rfl (Nat.le_of_ble_eq_true rfl) d_P_combine_170 (fun h2 hw => ?_)
  refine z_aload_n C (i := 0) d_P_combine_173 rfl rfl ?_
  refine z_getS C (ci := 4) (j := 7) (F := cf_P) (by decide) rfl rfl in_P (by decide) fl_P_36 rfl d_P_combine_174 ?_
  refine z_callVNi ⟨xN_ok, hG.1⟩ zT_good C (t_N_isBeyond hG hw) wn_N_isBeyond nl_P_225 (by decide) rfl rfl (by decide) (by decide) pl_N_isBeyond rfl rfl (Nat.le_of_ble_eq_true rfl) d_P_combine_177 (fun r3 h4 hw => ?_)
  refine z_if_eq C (tgt := 190) d_P_combine_180 (by decide) (fun q => ?_) (fun q => ?_)
  · replace hw := hw.1 q
    refine z_aload_n C (i := 0) d_P_combine_190 rfl rfl ?_
    refine z_iload_n C (i := 1) d_P_combine_191 rfl rfl ?_
    refine z_iload_n C (i := 2) d_P_combine_192 rfl rfl ?_
    refine z_aload_n C (i := 0) d_P_combine_193 rfl rfl ?_
    refine z_iload_n C (i := 1) d_P_combine_194 rfl rfl ?_
    refine z_iload_n C (i := 3) d_P_combine_195 rfl rfl ?_
    refine z_callVi ⟨xN_ok, hG.1⟩ zT_good C (t_P_kindGiven hG hw) ol_P_228 (by decide) rfl rfl (by decide) (by decide) pl_P_kindGiven rfl rfl (Nat.le_of_ble_eq_true rfl) d_P_combine_196 (fun r5 h6 hw => ?_)
    refine z_iload C d_P_combine_199 rfl ?_
    refine z_callVv ⟨xN_ok, hG.1⟩ zT_good C (t_P_addPart hG hw) ol_P_103 (by decide) rfl rfl (by decide) (by decide) pl_P_addPart rfl rfl (Nat.le_of_ble_eq_true rfl) d_P_combine_201 (fun h8 hw => ?_)
    refine z_aload_n C (i := 0) d_P_combine_204 rfl rfl ?_
    refine z_getI C (ci := 4) (j := 10) (F := cf_P) (by decide) rfl rfl in_P (by decide) fl_P_42 rfl d_P_combine_205 ?_
    refine z_if_ne C (tgt := 221) d_P_combine_208 (by decide) (fun q => ?_) (fun q => ?_)
    · replace hw := hw.1 q
      refine z_le (lv2 := [none, none, none, none, none, none]) (trivial) ?_
      exact w_P_combine_221 hG C hr  _ hw
    · replace hw := hw.2 q
      refine z_aload_n C (i := 0) d_P_combine_211 rfl rfl ?_
      refine z_getR C (ci := 4) (j := 8) (F := cf_P) (by decide) rfl rfl in_P (by decide) fl_P_58 rfl d_P_combine_212 ?_
      refine z_iload C d_P_combine_215 rfl ?_
      refine z_iload_n C (i := 3) d_P_combine_217 rfl rfl ?_
      obtain ⟨hk9, hw⟩ := hw
      refine z_callVNv ⟨xN_ok, hG.1⟩ zT_good C (t_T_tellTaken hG hw) wn_T_tellTaken nl_P_232 (xTm_l0 hk9) (xTm_0 hk9) rfl (by decide) (by decide) pl_T_tellTaken rfl rfl (Nat.le_of_ble_eq_true rfl) d_P_combine_218 (fun h11 hw => ?_)
      refine z_le (lv2 := [none, none, none, none, none, none]) (trivial) ?_
      exact w_P_combine_221 hG C hr  _ hw
  · replace hw := hw.2 q
    refine z_aload_n C (i := 0) d_P_combine_183 rfl rfl ?_
    refine z_iconst C (v := 4) d_P_combine_184 (by decide) ?_
    refine z_iload_n C (i := 2) d_P_combine_185 rfl rfl ?_
    refine z_callVv ⟨xN_ok, hG.1⟩ zT_good C (t_P_blame hG hw) ol_P_114 (by decide) rfl rfl (by decide) (by decide) pl_P_blame rfl rfl (Nat.le_of_ble_eq_true rfl) d_P_combine_186 (fun h13 hw => ?_)
    exact z_vret C hr d_P_combine_189 hw
set_option maxRecDepth 100000 in
set_option maxHeartbeats 4000000 in
theorem w_P_combine_59 {l : Launch} {E : zE} {G : (Nat → Prop) → State → Prop} {p : Program} {e : Env} {s : State} {m : MethodId} {args : Array Value} {below : List Frame} {meth : Method} {c : Code} {A : Nat → Prop} {post : zH → Prop} (hG : xGG E G) (C : zCx p s m args meth c E G A 3 74 prog_2_method_17_code 6 cn_P) (hr : meth.sig.returnType = none)  (l1 : Int32) (l2 : Int32) (l3 : Int32) (l4 : Int32) (s0 : Int32) (h : zH) (hw : b_P_combine_59 post l1 l2 l3 l4 s0 h) : zGo p l e s m args below meth c E A 3 74 6 (zPv post) h 59 [some (.ref (E.2.2.1 29)), some (.int l1), some (.int l2), some (.int l3), some (.int l4), none] [.int s0] := by
  unfold b_P_combine_59 at hw
  refine z_istore C d_P_combine_59 (by decide) rfl ?_
  refine z_aload_n C (i := 0) d_P_combine_61 rfl rfl ?_
  refine z_getS C (ci := 4) (j := 5) (F := cf_P) (by decide) rfl rfl in_P (by decide) fl_P_29 rfl d_P_combine_62 ?_
  refine z_aload_n C (i := 0) d_P_combine_65 rfl rfl ?_
  refine z_getR C (ci := 4) (j := 8) (F := cf_P) (by decide) rfl rfl in_P (by decide) fl_P_58 rfl d_P_combine_66 ?_
  refine z_iload C d_P_combine_69 rfl ?_
  obtain ⟨hk14, hw⟩ := hw
  refine z_callVNi ⟨xN_ok, hG.1⟩ zT_good C (t_T_lowOf hG hw) wn_T_lowOf nl_P_209 (xTm_l0 hk14) (xTm_0 hk14) rfl (by decide) (by decide) pl_T_lowOf rfl rfl (Nat.le_of_ble_eq_true rfl) d_P_combine_71 (fun r15 h16 hw => ?_)
  refine z_i2l C d_P_combine_74 ?_
  refine z_aload_n C (i := 0) d_P_combine_75 rfl rfl ?_
  refine z_getR C (ci := 4) (j := 8) (F := cf_P) (by decide) rfl rfl in_P (by decide) fl_P_58 rfl d_P_combine_76 ?_
  refine z_iload C d_P_combine_79 rfl ?_
  obtain ⟨hk17, hw⟩ := hw
  refine z_callVNi ⟨xN_ok, hG.1⟩ zT_good C (t_T_highOf hG hw) wn_T_highOf nl_P_210 (xTm_l0 hk17) (xTm_0 hk17) rfl (by decide) (by decide) pl_T_highOf rfl rfl (Nat.le_of_ble_eq_true rfl) d_P_combine_81 (fun r18 h19 hw => ?_)
  refine z_i2l C d_P_combine_84 ?_
  refine z_callVNv ⟨xN_ok, hG.1⟩ zT_good C (t_N_put hG hw) wn_N_put nl_P_96 (by decide) rfl rfl (by decide) (by decide) pl_N_put rfl rfl (Nat.le_of_ble_eq_true rfl) d_P_combine_85 (fun h21 hw => ?_)
  refine z_aload_n C (i := 0) d_P_combine_88 rfl rfl ?_
  refine z_getS C (ci := 4) (j := 6) (F := cf_P) (by decide) rfl rfl in_P (by decide) fl_P_33 rfl d_P_combine_89 ?_
  refine z_aload_n C (i := 0) d_P_combine_92 rfl rfl ?_
  refine z_getR C (ci := 4) (j := 8) (F := cf_P) (by decide) rfl rfl in_P (by decide) fl_P_58 rfl d_P_combine_93 ?_
  refine z_iload_n C (i := 3) d_P_combine_96 rfl rfl ?_
  obtain ⟨hk22, hw⟩ := hw
  refine z_callVNi ⟨xN_ok, hG.1⟩ zT_good C (t_T_lowOf hG hw) wn_T_lowOf nl_P_209 (xTm_l0 hk22) (xTm_0 hk22) rfl (by decide) (by decide) pl_T_lowOf rfl rfl (Nat.le_of_ble_eq_true rfl) d_P_combine_97 (fun r23 h24 hw => ?_)
  refine z_i2l C d_P_combine_100 ?_
  refine z_aload_n C (i := 0) d_P_combine_101 rfl rfl ?_
  refine z_getR C (ci := 4) (j := 8) (F := cf_P) (by decide) rfl rfl in_P (by decide) fl_P_58 rfl d_P_combine_102 ?_
  refine z_iload_n C (i := 3) d_P_combine_105 rfl rfl ?_
  obtain ⟨hk25, hw⟩ := hw
  refine z_callVNi ⟨xN_ok, hG.1⟩ zT_good C (t_T_highOf hG hw) wn_T_highOf nl_P_210 (xTm_l0 hk25) (xTm_0 hk25) rfl (by decide) (by decide) pl_T_highOf rfl rfl (Nat.le_of_ble_eq_true rfl) d_P_combine_106 (fun r26 h27 hw => ?_)
  refine z_i2l C d_P_combine_109 ?_
  refine z_callVNv ⟨xN_ok, hG.1⟩ zT_good C (t_N_put hG hw) wn_N_put nl_P_96 (by decide) rfl rfl (by decide) (by decide) pl_N_put rfl rfl (Nat.le_of_ble_eq_true rfl) d_P_combine_110 (fun h29 hw => ?_)
  refine z_aload_n C (i := 0) d_P_combine_113 rfl rfl ?_
  refine z_iload_n C (i := 1) d_P_combine_114 rfl rfl ?_
  refine z_iload C d_P_combine_115 rfl ?_
  refine z_iload_n C (i := 3) d_P_combine_117 rfl rfl ?_
  refine z_iload C d_P_combine_118 rfl ?_
  refine z_callVi ⟨xN_ok, hG.1⟩ zT_good C (t_P_kindsFit hG hw) ol_P_211 (by decide) rfl rfl (by decide) (by decide) pl_P_kindsFit rfl rfl (Nat.le_of_ble_eq_true rfl) d_P_combine_120 (fun r30 h31 hw => ?_)
  refine z_if_ne C (tgt := 133) d_P_combine_123 (by decide) (fun q => ?_) (fun q => ?_)
  · replace hw := hw.1 q
    refine z_iload_n C (i := 1) d_P_combine_133 rfl rfl ?_
    refine z_callSNi ⟨xN_ok, hG.1⟩ zT_good C (t_R_divides hG hw) wn_R_divides nl_P_215 (by decide) (by decide) pl_R_divides rfl rfl (Nat.le_of_ble_eq_true rfl) d_P_combine_134 (fun r32 h33 hw => ?_)
    refine z_if_eq C (tgt := 157) d_P_combine_137 (by decide) (fun q => ?_) (fun q => ?_)
    · replace hw := hw.1 q
      refine z_le (lv2 := [some (.ref (E.2.2.1 29)), some (.int l1), some (.int l2), some (.int l3), some (.int l4), some (.int s0)]) (⟨rfl, ⟨rfl, ⟨rfl, ⟨rfl, ⟨rfl, ⟨rfl, trivial⟩⟩⟩⟩⟩⟩) ?_
      exact w_P_combine_157 hG C hr _ _ _ _ _ _ hw
    · replace hw := hw.2 q
      refine z_aload_n C (i := 0) d_P_combine_140 rfl rfl ?_
      refine z_getS C (ci := 4) (j := 6) (F := cf_P) (by decide) rfl rfl in_P (by decide) fl_P_33 rfl d_P_combine_141 ?_
      refine z_callVNi ⟨xN_ok, hG.1⟩ zT_good C (t_N_hasZero hG hw) wn_N_hasZero nl_P_218 (by decide) rfl rfl (by decide) (by decide) pl_N_hasZero rfl rfl (Nat.le_of_ble_eq_true rfl) d_P_combine_144 (fun r34 h35 hw => ?_)
      refine z_if_eq C (tgt := 157) d_P_combine_147 (by decide) (fun q => ?_) (fun q => ?_)
      · replace hw := hw.1 q
        refine z_le (lv2 := [some (.ref (E.2.2.1 29)), some (.int l1), some (.int l2), some (.int l3), some (.int l4), some (.int s0)]) (⟨rfl, ⟨rfl, ⟨rfl, ⟨rfl, ⟨rfl, ⟨rfl, trivial⟩⟩⟩⟩⟩⟩) ?_
        exact w_P_combine_157 hG C hr _ _ _ _ _ _ hw
      · replace hw := hw.2 q
        refine z_aload_n C (i := 0) d_P_combine_150 rfl rfl ?_
        refine z_iconst C (v := 3) d_P_combine_151 (by decide) ?_
        refine z_iload_n C (i := 2) d_P_combine_152 rfl rfl ?_
        refine z_callVv ⟨xN_ok, hG.1⟩ zT_good C (t_P_blame hG hw) ol_P_114 (by decide) rfl rfl (by decide) (by decide) pl_P_blame rfl rfl (Nat.le_of_ble_eq_true rfl) d_P_combine_153 (fun h37 hw => ?_)
        exact z_vret C hr d_P_combine_156 hw
  · replace hw := hw.2 q
    refine z_aload_n C (i := 0) d_P_combine_126 rfl rfl ?_
    refine z_iconst C (v := 2) d_P_combine_127 (by decide) ?_
    refine z_iload_n C (i := 2) d_P_combine_128 rfl rfl ?_
    refine z_callVv ⟨xN_ok, hG.1⟩ zT_good C (t_P_blame hG hw) ol_P_114 (by decide) rfl rfl (by decide) (by decide) pl_P_blame rfl rfl (Nat.le_of_ble_eq_true rfl) d_P_combine_129 (fun h39 hw => ?_)
    exact z_vret C hr d_P_combine_132 hw
set_option maxRecDepth 100000 in
set_option maxHeartbeats 4000000 in
theorem w_P_combine_43 {l : Launch} {E : zE} {G : (Nat → Prop) → State → Prop} {p : Program} {e : Env} {s : State} {m : MethodId} {args : Array Value} {below : List Frame} {meth : Method} {c : Code} {A : Nat → Prop} {post : zH → Prop} (hG : xGG E G) (C : zCx p s m args meth c E G A 3 74 prog_2_method_17_code 6 cn_P) (hr : meth.sig.returnType = none)  (l1 : Int32) (l2 : Int32) (l3 : Int32) (s0 : Int32) (h : zH) (hw : b_P_combine_43 post l1 l2 l3 s0 h) : zGo p l e s m args below meth c E A 3 74 6 (zPv post) h 43 [some (.ref (E.2.2.1 29)), some (.int l1), some (.int l2), some (.int l3), none, none] [.int s0] := by
  unfold b_P_combine_43 at hw
  refine z_istore C d_P_combine_43 (by decide) rfl ?_
  refine z_iload_n C (i := 1) d_P_combine_45 rfl rfl ?_
  refine z_bipush C (v := 7) d_P_combine_46 (by decide) ?_
  refine z_icmp_ne C (tgt := 58) d_P_combine_48 (by decide) (fun q => ?_) (fun q => ?_)
  · replace hw := hw.1 q
    refine z_iconst C (v := (-1)) d_P_combine_58 (by decide) ?_
    refine z_le (lv2 := [some (.ref (E.2.2.1 29)), some (.int l1), some (.int l2), some (.int l3), some (.int s0), none]) (⟨rfl, ⟨rfl, ⟨rfl, ⟨rfl, ⟨rfl, trivial⟩⟩⟩⟩⟩) ?_
    exact w_P_combine_59 hG C hr _ _ _ _ _ _ hw
  · replace hw := hw.2 q
    refine z_aload_n C (i := 0) d_P_combine_51 rfl rfl ?_
    refine z_callVi ⟨xN_ok, hG.1⟩ zT_good C (t_P_popLoose hG hw) ol_P_203 (by decide) rfl rfl (by decide) (by decide) pl_P_popLoose rfl rfl (Nat.le_of_ble_eq_true rfl) d_P_combine_52 (fun r40 h41 hw => ?_)
    refine z_goto C (tgt := 59) d_P_combine_55 (by decide) ?_
    refine z_le (lv2 := [some (.ref (E.2.2.1 29)), some (.int l1), some (.int l2), some (.int l3), some (.int s0), none]) (⟨rfl, ⟨rfl, ⟨rfl, ⟨rfl, ⟨rfl, trivial⟩⟩⟩⟩⟩) ?_
    exact w_P_combine_59 hG C hr _ _ _ _ _ _ hw
set_option maxRecDepth 100000 in
set_option maxHeartbeats 4000000 in
theorem t_P_combine {l : Launch} {E : zE} {G : (Nat → Prop) → State → Prop} (hG : xGG E G) {h : zH} {post : zH → Prop} (hw : wp_P_combine  h post) : Ct l xX E xcl xN zT G 3 74 y_P_combine prog_2_method_17_code 6 none [.ref (E.2.2.1 29)] h (zPv post) := by
  unfold wp_P_combine at hw
  refine Ct.of (by decide) (Nat.le_of_ble_eq_true rfl) ?_
  intro p e s m below meth c A C hr
  refine z_lv (lv2 := [some (.ref (E.2.2.1 29)), none, none, none, none, none]) rfl ?_
  refine z_aload_n C (i := 0) d_P_combine_0 rfl rfl ?_
  refine z_getS C (ci := 4) (j := 2) (F := cf_P) (by decide) rfl rfl in_P (by decide) fl_P_12 rfl d_P_combine_1 ?_
  refine z_callVNi ⟨xN_ok, hG.1⟩ zT_good C (t_G_topCode hG hw) wn_G_topCode nl_P_173 (by decide) rfl rfl (by decide) (by decide) pl_G_topCode rfl rfl (Nat.le_of_ble_eq_true rfl) d_P_combine_4 (fun r42 h43 hw => ?_)
  refine z_istore_n C (i := 1) d_P_combine_7 rfl (by decide) rfl ?_
  refine z_aload_n C (i := 0) d_P_combine_8 rfl rfl ?_
  refine z_getS C (ci := 4) (j := 2) (F := cf_P) (by decide) rfl rfl in_P (by decide) fl_P_12 rfl d_P_combine_9 ?_
  refine z_callVNi ⟨xN_ok, hG.1⟩ zT_good C (t_G_topPlace hG hw) wn_G_topPlace nl_P_200 (by decide) rfl rfl (by decide) (by decide) pl_G_topPlace rfl rfl (Nat.le_of_ble_eq_true rfl) d_P_combine_12 (fun r44 h45 hw => ?_)
  refine z_istore_n C (i := 2) d_P_combine_15 rfl (by decide) rfl ?_
  refine z_aload_n C (i := 0) d_P_combine_16 rfl rfl ?_
  refine z_getS C (ci := 4) (j := 2) (F := cf_P) (by decide) rfl rfl in_P (by decide) fl_P_12 rfl d_P_combine_17 ?_
  refine z_callVNv ⟨xN_ok, hG.1⟩ zT_good C (t_G_pop hG hw) wn_G_pop nl_P_196 (by decide) rfl rfl (by decide) (by decide) pl_G_pop rfl rfl (Nat.le_of_ble_eq_true rfl) d_P_combine_20 (fun h47 hw => ?_)
  refine z_aload_n C (i := 0) d_P_combine_23 rfl rfl ?_
  refine z_callVi ⟨xN_ok, hG.1⟩ zT_good C (t_P_popLoose hG hw) ol_P_203 (by decide) rfl rfl (by decide) (by decide) pl_P_popLoose rfl rfl (Nat.le_of_ble_eq_true rfl) d_P_combine_24 (fun r48 h49 hw => ?_)
  refine z_istore_n C (i := 3) d_P_combine_27 rfl (by decide) rfl ?_
  refine z_iload_n C (i := 1) d_P_combine_28 rfl rfl ?_
  refine z_callSNi ⟨xN_ok, hG.1⟩ zT_good C (t_R_takesOne hG hw) wn_R_takesOne nl_P_206 (by decide) (by decide) pl_R_takesOne rfl rfl (Nat.le_of_ble_eq_true rfl) d_P_combine_29 (fun r50 h51 hw => ?_)
  refine z_if_eq C (tgt := 39) d_P_combine_32 (by decide) (fun q => ?_) (fun q => ?_)
  · replace hw := hw.1 q
    refine z_aload_n C (i := 0) d_P_combine_39 rfl rfl ?_
    refine z_callVi ⟨xN_ok, hG.1⟩ zT_good C (t_P_popLoose hG hw) ol_P_203 (by decide) rfl rfl (by decide) (by decide) pl_P_popLoose rfl rfl (Nat.le_of_ble_eq_true rfl) d_P_combine_40 (fun r52 h53 hw => ?_)
    refine z_le (lv2 := [some (.ref (E.2.2.1 29)), some (.int r42), some (.int r44), some (.int r48), none, none]) (⟨rfl, ⟨rfl, ⟨rfl, ⟨rfl, trivial⟩⟩⟩⟩) ?_
    exact w_P_combine_43 hG C hr _ _ _ _ _ hw
  · replace hw := hw.2 q
    refine z_iload_n C (i := 3) d_P_combine_35 rfl rfl ?_
    refine z_goto C (tgt := 43) d_P_combine_36 (by decide) ?_
    refine z_le (lv2 := [some (.ref (E.2.2.1 29)), some (.int r42), some (.int r44), some (.int r48), none, none]) (⟨rfl, ⟨rfl, ⟨rfl, ⟨rfl, trivial⟩⟩⟩⟩) ?_
    exact w_P_combine_43 hG C hr _ _ _ _ _ hw
theorem d_P_tokenDue_0 : decode prog_2_method_15_code 0 = .ok (.iload_n 0, 1) := by decide +kernel
theorem d_P_tokenDue_1 : decode prog_2_method_15_code 1 = .ok (.ifCond .ne (5), 3) := by decide +kernel
theorem d_P_tokenDue_4 : decode prog_2_method_15_code 4 = .ok (.iconst 1, 1) := by decide +kernel
theorem d_P_tokenDue_5 : decode prog_2_method_15_code 5 = .ok (.ireturn, 1) := by decide +kernel
theorem d_P_tokenDue_6 : decode prog_2_method_15_code 6 = .ok (.iload_n 1, 1) := by decide +kernel
theorem d_P_tokenDue_7 : decode prog_2_method_15_code 7 = .ok (.ifCond .eq (5), 3) := by decide +kernel
theorem d_P_tokenDue_10 : decode prog_2_method_15_code 10 = .ok (.iconst 5, 1) := by decide +kernel
theorem d_P_tokenDue_11 : decode prog_2_method_15_code 11 = .ok (.ireturn, 1) := by decide +kernel
theorem d_P_tokenDue_12 : decode prog_2_method_15_code 12 = .ok (.iload_n 0, 1) := by decide +kernel
theorem d_P_tokenDue_13 : decode prog_2_method_15_code 13 = .ok (.bipush (7), 2) := by decide +kernel
theorem d_P_tokenDue_15 : decode prog_2_method_15_code 15 = .ok (.if_icmp .ne (8), 3) := by decide +kernel
theorem d_P_tokenDue_18 : decode prog_2_method_15_code 18 = .ok (.bipush (8), 2) := by decide +kernel
theorem d_P_tokenDue_20 : decode prog_2_method_15_code 20 = .ok (.goto (5), 3) := by decide +kernel
theorem d_P_tokenDue_23 : decode prog_2_method_15_code 23 = .ok (.bipush (6), 2) := by decide +kernel
theorem d_P_tokenDue_25 : decode prog_2_method_15_code 25 = .ok (.ireturn, 1) := by decide +kernel
def b_P_tokenDue_25 (post : Int32 → zH → Prop) (s0 : Int32) (h : zH) : Prop := post s0 h
def wp_P_tokenDue (l0 : Int32) (l1 : Int32) (h : zH) (post : Int32 → zH → Prop) : Prop := ((¬ l0 = 0 → ((l1 = 0 → ((¬ l0 = 7 → b_P_tokenDue_25 post (6) h) ∧ (l0 = 7 → b_P_tokenDue_25 post (8) h))) ∧ (¬ l1 = 0 → post 5 h))) ∧ (l0 = 0 → post 1 h))
set_option maxRecDepth 100000 in
set_option maxHeartbeats 4000000 in
theorem w_P_tokenDue_25 {l : Launch} {E : zE} {G : (Nat → Prop) → State → Prop} {p : Program} {e : Env} {s : State} {m : MethodId} {args : Array Value} {below : List Frame} {meth : Method} {c : Code} {A : Nat → Prop} {post : Int32 → zH → Prop} (hG : xGG E G) (C : zCx p s m args meth c E G A 0 0 prog_2_method_15_code 2 cn_P) (hr : meth.sig.returnType = (some .int))  (s0 : Int32) (h : zH) (hw : b_P_tokenDue_25 post s0 h) : zGo p l e s m args below meth c E A 0 0 2 (zPi post) h 25 [none, none] [.int s0] := by
  unfold b_P_tokenDue_25 at hw
  exact z_iret C hr d_P_tokenDue_25 hw
set_option maxRecDepth 100000 in
set_option maxHeartbeats 4000000 in
theorem t_P_tokenDue {l : Launch} {E : zE} {G : (Nat → Prop) → State → Prop} (hG : xGG E G) {l0 : Int32} {l1 : Int32} {h : zH} {post : Int32 → zH → Prop} (hw : wp_P_tokenDue l0 l1 h post) : Ct l xX E xcl xN zT G 0 0 y_P_tokenDue prog_2_method_15_code 2 (some .int) [.int l0, .int l1] h (zPi post) := by
  unfold wp_P_tokenDue at hw
  refine Ct.of (by decide) (Nat.le_of_ble_eq_true rfl) ?_
  intro p e s m below meth c A C hr
  refine z_lv (lv2 := [some (.int l0), some (.int l1)]) rfl ?_
  refine z_iload_n C (i := 0) d_P_tokenDue_0 rfl rfl ?_
  refine z_if_ne C (tgt := 6) d_P_tokenDue_1 (by decide) (fun q => ?_) (fun q => ?_)
  · replace hw := hw.1 q
    refine z_iload_n C (i := 1) d_P_tokenDue_6 rfl rfl ?_
    refine z_if_eq C (tgt := 12) d_P_tokenDue_7 (by decide) (fun q => ?_) (fun q => ?_)
    · replace hw := hw.1 q
      refine z_iload_n C (i := 0) d_P_tokenDue_12 rfl rfl ?_
      refine z_bipush C (v := 7) d_P_tokenDue_13 (by decide) ?_
      refine z_icmp_ne C (tgt := 23) d_P_tokenDue_15 (by decide) (fun q => ?_) (fun q => ?_)
      · replace hw := hw.1 q
        refine z_bipush C (v := 6) d_P_tokenDue_23 (by decide) ?_
        refine z_le (lv2 := [none, none]) (trivial) ?_
        exact w_P_tokenDue_25 hG C hr _ _ hw
      · replace hw := hw.2 q
        refine z_bipush C (v := 8) d_P_tokenDue_18 (by decide) ?_
        refine z_goto C (tgt := 25) d_P_tokenDue_20 (by decide) ?_
        refine z_le (lv2 := [none, none]) (trivial) ?_
        exact w_P_tokenDue_25 hG C hr _ _ hw
    · replace hw := hw.2 q
      refine z_iconst C (v := 5) d_P_tokenDue_10 (by decide) ?_
      exact z_iret C hr d_P_tokenDue_11 hw
  · replace hw := hw.2 q
    refine z_iconst C (v := 1) d_P_tokenDue_4 (by decide) ?_
    exact z_iret C hr d_P_tokenDue_5 hw
theorem d_P_readBehindTerm_0 : decode prog_2_method_14_code 0 = .ok (.iload_n 1, 1) := by decide +kernel
theorem d_P_readBehindTerm_1 : decode prog_2_method_14_code 1 = .ok (.iload_n 2, 1) := by decide +kernel
theorem d_P_readBehindTerm_2 : decode prog_2_method_14_code 2 = .ok (.invokestatic 189, 3) := by decide +kernel
theorem d_P_readBehindTerm_5 : decode prog_2_method_14_code 5 = .ok (.istore_n 3, 1) := by decide +kernel
theorem d_P_readBehindTerm_6 : decode prog_2_method_14_code 6 = .ok (.aload_n 0, 1) := by decide +kernel
theorem d_P_readBehindTerm_7 : decode prog_2_method_14_code 7 = .ok (.getfield 54, 3) := by decide +kernel
theorem d_P_readBehindTerm_10 : decode prog_2_method_14_code 10 = .ok (.getfield 90, 3) := by decide +kernel
theorem d_P_readBehindTerm_13 : decode prog_2_method_14_code 13 = .ok (.iload_n 3, 1) := by decide +kernel
theorem d_P_readBehindTerm_14 : decode prog_2_method_14_code 14 = .ok (.if_icmp .eq (18), 3) := by decide +kernel
theorem d_P_readBehindTerm_17 : decode prog_2_method_14_code 17 = .ok (.aload_n 0, 1) := by decide +kernel
theorem d_P_readBehindTerm_18 : decode prog_2_method_14_code 18 = .ok (.iconst 1, 1) := by decide +kernel
theorem d_P_readBehindTerm_19 : decode prog_2_method_14_code 19 = .ok (.aload_n 0, 1) := by decide +kernel
theorem d_P_readBehindTerm_20 : decode prog_2_method_14_code 20 = .ok (.getfield 54, 3) := by decide +kernel
theorem d_P_readBehindTerm_23 : decode prog_2_method_14_code 23 = .ok (.getfield 100, 3) := by decide +kernel
theorem d_P_readBehindTerm_26 : decode prog_2_method_14_code 26 = .ok (.invokevirtual 114, 3) := by decide +kernel
theorem d_P_readBehindTerm_29 : decode prog_2_method_14_code 29 = .ok (.goto (48), 3) := by decide +kernel
theorem d_P_readBehindTerm_32 : decode prog_2_method_14_code 32 = .ok (.iload_n 3, 1) := by decide +kernel
theorem d_P_readBehindTerm_33 : decode prog_2_method_14_code 33 = .ok (.iconst 1, 1) := by decide +kernel
theorem d_P_readBehindTerm_34 : decode prog_2_method_14_code 34 = .ok (.if_icmp .ne (11), 3) := by decide +kernel
theorem d_P_readBehindTerm_37 : decode prog_2_method_14_code 37 = .ok (.aload_n 0, 1) := by decide +kernel
theorem d_P_readBehindTerm_38 : decode prog_2_method_14_code 38 = .ok (.iconst 3, 1) := by decide +kernel
theorem d_P_readBehindTerm_39 : decode prog_2_method_14_code 39 = .ok (.putfield 39, 3) := by decide +kernel
theorem d_P_readBehindTerm_42 : decode prog_2_method_14_code 42 = .ok (.goto (35), 3) := by decide +kernel
theorem d_P_readBehindTerm_45 : decode prog_2_method_14_code 45 = .ok (.iload_n 3, 1) := by decide +kernel
theorem d_P_readBehindTerm_46 : decode prog_2_method_14_code 46 = .ok (.iconst 5, 1) := by decide +kernel
theorem d_P_readBehindTerm_47 : decode prog_2_method_14_code 47 = .ok (.if_icmp .eq (18), 3) := by decide +kernel
theorem d_P_readBehindTerm_50 : decode prog_2_method_14_code 50 = .ok (.aload_n 0, 1) := by decide +kernel
theorem d_P_readBehindTerm_51 : decode prog_2_method_14_code 51 = .ok (.getfield 12, 3) := by decide +kernel
theorem d_P_readBehindTerm_54 : decode prog_2_method_14_code 54 = .ok (.invokevirtual 193, 3) := by decide +kernel
theorem d_P_readBehindTerm_57 : decode prog_2_method_14_code 57 = .ok (.aload_n 0, 1) := by decide +kernel
theorem d_P_readBehindTerm_58 : decode prog_2_method_14_code 58 = .ok (.iconst 0, 1) := by decide +kernel
theorem d_P_readBehindTerm_59 : decode prog_2_method_14_code 59 = .ok (.putfield 39, 3) := by decide +kernel
theorem d_P_readBehindTerm_62 : decode prog_2_method_14_code 62 = .ok (.goto (15), 3) := by decide +kernel
theorem d_P_readBehindTerm_65 : decode prog_2_method_14_code 65 = .ok (.iload_n 1, 1) := by decide +kernel
theorem d_P_readBehindTerm_66 : decode prog_2_method_14_code 66 = .ok (.iconst 4, 1) := by decide +kernel
theorem d_P_readBehindTerm_67 : decode prog_2_method_14_code 67 = .ok (.if_icmp .ne (10), 3) := by decide +kernel
theorem d_P_readBehindTerm_70 : decode prog_2_method_14_code 70 = .ok (.aload_n 0, 1) := by decide +kernel
theorem d_P_readBehindTerm_71 : decode prog_2_method_14_code 71 = .ok (.getfield 12, 3) := by decide +kernel
theorem d_P_readBehindTerm_74 : decode prog_2_method_14_code 74 = .ok (.invokevirtual 196, 3) := by decide +kernel
theorem d_P_readBehindTerm_77 : decode prog_2_method_14_code 77 = .ok (.return_, 1) := by decide +kernel
def b_P_readBehindTerm_77 (post : zH → Prop) (h : zH) : Prop := post h
def wp_P_readBehindTerm (l1 : Int32) (l2 : Int32) (h : zH) (post : zH → Prop) : Prop := wp_P_tokenDue (l1) (l2) h (fun (r1 : Int32) (h2 : zH) => (((h2.1 30 2) = r1 → ((¬ r1 = 1 → ((r1 = 5 → ((¬ l1 = 4 → b_P_readBehindTerm_77 post  h2) ∧ (l1 = 4 → wp_G_pop  h2 (fun (h4 : zH) => b_P_readBehindTerm_77 post  h4)))) ∧ (¬ r1 = 5 → wp_G_cameNextTerm  h2 (fun (h6 : zH) => (∀ h7 : zH, h7 = zi h6 29 9 0 → b_P_readBehindTerm_77 post  h7))))) ∧ (r1 = 1 → (∀ h8 : zH, h8 = zi h2 29 9 3 → b_P_readBehindTerm_77 post  h8)))) ∧ (¬ (h2.1 30 2) = r1 → wp_P_blame (1) ((h2.1 30 3)) h2 (fun (h10 : zH) => b_P_readBehindTerm_77 post  h10))))
set_option maxRecDepth 100000 in
set_option maxHeartbeats 4000000 in
theorem w_P_readBehindTerm_77 {l : Launch} {E : zE} {G : (Nat → Prop) → State → Prop} {p : Program} {e : Env} {s : State} {m : MethodId} {args : Array Value} {below : List Frame} {meth : Method} {c : Code} {A : Nat → Prop} {post : zH → Prop} (hG : xGG E G) (C : zCx p s m args meth c E G A 3 61 prog_2_method_14_code 4 cn_P) (hr : meth.sig.returnType = none)  (h : zH) (hw : b_P_readBehindTerm_77 post  h) : zGo p l e s m args below meth c E A 3 61 4 (zPv post) h 77 [none, none, none, none] [] := by
  unfold b_P_readBehindTerm_77 at hw
  exact z_vret C hr d_P_readBehindTerm_77 hw
set_option maxRecDepth 100000 in
set_option maxHeartbeats 4000000 in
theorem t_P_readBehindTerm {l : Launch} {E : zE} {G : (Nat → Prop) → State → Prop} (hG : xGG E G) {l1 : Int32} {l2 : Int32} {h : zH} {post : zH → Prop} (hw : wp_P_readBehindTerm l1 l2 h post) : Ct l xX E xcl xN zT G 3 61 y_P_readBehindTerm prog_2_method_14_code 4 none [.ref (E.2.2.1 29), .int l1, .int l2] h (zPv post) := by
  unfold wp_P_readBehindTerm at hw
  refine Ct.of (by decide) (Nat.le_of_ble_eq_true rfl) ?_
  intro p e s m below meth c A C hr
  refine z_lv (lv2 := [some (.ref (E.2.2.1 29)), some (.int l1), some (.int l2), none]) rfl ?_
  refine z_iload_n C (i := 1) d_P_readBehindTerm_0 rfl rfl ?_
  refine z_iload_n C (i := 2) d_P_readBehindTerm_1 rfl rfl ?_
  refine z_callSi ⟨xN_ok, hG.1⟩ zT_good C (t_P_tokenDue hG hw) ol_P_189 (by decide) (by decide) pl_P_tokenDue rfl rfl (Nat.le_of_ble_eq_true rfl) d_P_readBehindTerm_2 (fun r1 h2 hw => ?_)
  refine z_istore_n C (i := 3) d_P_readBehindTerm_5 rfl (by decide) rfl ?_
  refine z_aload_n C (i := 0) d_P_readBehindTerm_6 rfl rfl ?_
  refine z_getS C (ci := 4) (j := 1) (F := cf_P) (by decide) rfl rfl in_P (by decide) fl_P_54 rfl d_P_readBehindTerm_7 ?_
  refine z_getIN C (ci := 5) (j := 2) (F := cf_K) (by decide) rfl rfl in_K (by decide) fn_P_90 rfl d_P_readBehindTerm_10 ?_
  refine z_iload_n C (i := 3) d_P_readBehindTerm_13 rfl rfl ?_
  refine z_icmp_eq C (tgt := 32) d_P_readBehindTerm_14 (by decide) (fun q => ?_) (fun q => ?_)
  · replace hw := hw.1 q
    refine z_iload_n C (i := 3) d_P_readBehindTerm_32 rfl rfl ?_
    refine z_iconst C (v := 1) d_P_readBehindTerm_33 (by decide) ?_
    refine z_icmp_ne C (tgt := 45) d_P_readBehindTerm_34 (by decide) (fun q => ?_) (fun q => ?_)
    · replace hw := hw.1 q
      refine z_iload_n C (i := 3) d_P_readBehindTerm_45 rfl rfl ?_
      refine z_iconst C (v := 5) d_P_readBehindTerm_46 (by decide) ?_
      refine z_icmp_eq C (tgt := 65) d_P_readBehindTerm_47 (by decide) (fun q => ?_) (fun q => ?_)
      · replace hw := hw.1 q
        refine z_iload_n C (i := 1) d_P_readBehindTerm_65 rfl rfl ?_
        refine z_iconst C (v := 4) d_P_readBehindTerm_66 (by decide) ?_
        refine z_icmp_ne C (tgt := 77) d_P_readBehindTerm_67 (by decide) (fun q => ?_) (fun q => ?_)
        · replace hw := hw.1 q
          refine z_le (lv2 := [none, none, none, none]) (trivial) ?_
          exact w_P_readBehindTerm_77 hG C hr  _ hw
        · replace hw := hw.2 q
          refine z_aload_n C (i := 0) d_P_readBehindTerm_70 rfl rfl ?_
          refine z_getS C (ci := 4) (j := 2) (F := cf_P) (by decide) rfl rfl in_P (by decide) fl_P_12 rfl d_P_readBehindTerm_71 ?_
          refine z_callVNv ⟨xN_ok, hG.1⟩ zT_good C (t_G_pop hG hw) wn_G_pop nl_P_196 (by decide) rfl rfl (by decide) (by decide) pl_G_pop rfl rfl (Nat.le_of_ble_eq_true rfl) d_P_readBehindTerm_74 (fun h4 hw => ?_)
          refine z_le (lv2 := [none, none, none, none]) (trivial) ?_
          exact w_P_readBehindTerm_77 hG C hr  _ hw
      · replace hw := hw.2 q
        refine z_aload_n C (i := 0) d_P_readBehindTerm_50 rfl rfl ?_
        refine z_getS C (ci := 4) (j := 2) (F := cf_P) (by decide) rfl rfl in_P (by decide) fl_P_12 rfl d_P_readBehindTerm_51 ?_
        refine z_callVNv ⟨xN_ok, hG.1⟩ zT_good C (t_G_cameNextTerm hG hw) wn_G_cameNextTerm nl_P_193 (by decide) rfl rfl (by decide) (by decide) pl_G_cameNextTerm rfl rfl (Nat.le_of_ble_eq_true rfl) d_P_readBehindTerm_54 (fun h6 hw => ?_)
        refine z_aload_n C (i := 0) d_P_readBehindTerm_57 rfl rfl ?_
        refine z_iconst C (v := 0) d_P_readBehindTerm_58 (by decide) ?_
        refine z_putI C (ci := 4) (j := 9) (F := cf_P) ct_P (by decide) rfl rfl in_P ty_P nm_P (by decide) fl_P_39 rfl (by decide +kernel) rfl d_P_readBehindTerm_59 (fun h7 eh7 => ?_)
        replace hw := hw h7 eh7
        refine z_goto C (tgt := 77) d_P_readBehindTerm_62 (by decide) ?_
        refine z_le (lv2 := [none, none, none, none]) (trivial) ?_
        exact w_P_readBehindTerm_77 hG C hr  _ hw
    · replace hw := hw.2 q
      refine z_aload_n C (i := 0) d_P_readBehindTerm_37 rfl rfl ?_
      refine z_iconst C (v := 3) d_P_readBehindTerm_38 (by decide) ?_
      refine z_putI C (ci := 4) (j := 9) (F := cf_P) ct_P (by decide) rfl rfl in_P ty_P nm_P (by decide) fl_P_39 rfl (by decide +kernel) rfl d_P_readBehindTerm_39 (fun h8 eh8 => ?_)
      replace hw := hw h8 eh8
      refine z_goto C (tgt := 77) d_P_readBehindTerm_42 (by decide) ?_
      refine z_le (lv2 := [none, none, none, none]) (trivial) ?_
      exact w_P_readBehindTerm_77 hG C hr  _ hw
  · replace hw := hw.2 q
    refine z_aload_n C (i := 0) d_P_readBehindTerm_17 rfl rfl ?_
    refine z_iconst C (v := 1) d_P_readBehindTerm_18 (by decide) ?_
    refine z_aload_n C (i := 0) d_P_readBehindTerm_19 rfl rfl ?_
    refine z_getS C (ci := 4) (j := 1) (F := cf_P) (by decide) rfl rfl in_P (by decide) fl_P_54 rfl d_P_readBehindTerm_20 ?_
    refine z_getIN C (ci := 5) (j := 3) (F := cf_K) (by decide) rfl rfl in_K (by decide) fn_P_100 rfl d_P_readBehindTerm_23 ?_
    refine z_callVv ⟨xN_ok, hG.1⟩ zT_good C (t_P_blame hG hw) ol_P_114 (by decide) rfl rfl (by decide) (by decide) pl_P_blame rfl rfl (Nat.le_of_ble_eq_true rfl) d_P_readBehindTerm_26 (fun h10 hw => ?_)
    refine z_goto C (tgt := 77) d_P_readBehindTerm_29 (by decide) ?_
    refine z_le (lv2 := [none, none, none, none]) (trivial) ?_
    exact w_P_readBehindTerm_77 hG C hr  _ hw
theorem d_P_settle_0 : decode prog_2_method_16_code 0 = .ok (.aload_n 0, 1) := by decide +kernel
theorem d_P_settle_1 : decode prog_2_method_16_code 1 = .ok (.getfield 12, 3) := by decide +kernel
theorem d_P_settle_4 : decode prog_2_method_16_code 4 = .ok (.getfield 199, 3) := by decide +kernel
theorem d_P_settle_7 : decode prog_2_method_16_code 7 = .ok (.istore_n 2, 1) := by decide +kernel
theorem d_P_settle_8 : decode prog_2_method_16_code 8 = .ok (.iload_n 2, 1) := by decide +kernel
theorem d_P_settle_9 : decode prog_2_method_16_code 9 = .ok (.ifCond .le (31), 3) := by decide +kernel
theorem d_P_settle_12 : decode prog_2_method_16_code 12 = .ok (.aload_n 0, 1) := by decide +kernel
theorem d_P_settle_13 : decode prog_2_method_16_code 13 = .ok (.getfield 42, 3) := by decide +kernel
theorem d_P_settle_16 : decode prog_2_method_16_code 16 = .ok (.ifCond .ne (24), 3) := by decide +kernel
theorem d_P_settle_19 : decode prog_2_method_16_code 19 = .ok (.aload_n 0, 1) := by decide +kernel
theorem d_P_settle_20 : decode prog_2_method_16_code 20 = .ok (.getfield 12, 3) := by decide +kernel
theorem d_P_settle_23 : decode prog_2_method_16_code 23 = .ok (.invokevirtual 169, 3) := by decide +kernel
theorem d_P_settle_26 : decode prog_2_method_16_code 26 = .ok (.iload_n 1, 1) := by decide +kernel
theorem d_P_settle_27 : decode prog_2_method_16_code 27 = .ok (.if_icmp .lt (13), 3) := by decide +kernel
theorem d_P_settle_30 : decode prog_2_method_16_code 30 = .ok (.aload_n 0, 1) := by decide +kernel
theorem d_P_settle_31 : decode prog_2_method_16_code 31 = .ok (.invokevirtual 182, 3) := by decide +kernel
theorem d_P_settle_34 : decode prog_2_method_16_code 34 = .ok (.iinc 2 (-1), 3) := by decide +kernel
theorem d_P_settle_37 : decode prog_2_method_16_code 37 = .ok (.goto (-29), 3) := by decide +kernel
theorem d_P_settle_40 : decode prog_2_method_16_code 40 = .ok (.return_, 1) := by decide +kernel
def b_P_settle_40 (post : zH → Prop) (h : zH) : Prop := post h
def b_P_settle_8 (post : zH → Prop) : Nat → Int32 → Int32 → zH → Prop
  | 0, _, _, _ => False
  | n + 1, l1, l2, h => (fun rc : Int32 → Int32 → zH → Prop => ((l2 ≤ 0 → b_P_settle_40 post  h) ∧ (¬ l2 ≤ 0 → ((¬ (h.1 29 10) = 0 → b_P_settle_40 post  h) ∧ ((h.1 29 10) = 0 → wp_G_topStrength  h (fun (r1 : Int32) (h2 : zH) => ((r1 < l1 → b_P_settle_40 post  h2) ∧ (¬ r1 < l1 → wp_P_combine  h2 (fun (h4 : zH) => rc (l1) ((l2 + (-1))) h4))))))))) (b_P_settle_8 post n)
def wp_P_settle (l1 : Int32) (h : zH) (post : zH → Prop) : Prop := (∃ n : Nat, b_P_settle_8 post n (l1) ((h.1 31 3)) h)
set_option maxRecDepth 100000 in
set_option maxHeartbeats 4000000 in
theorem w_P_settle_40 {l : Launch} {E : zE} {G : (Nat → Prop) → State → Prop} {p : Program} {e : Env} {s : State} {m : MethodId} {args : Array Value} {below : List Frame} {meth : Method} {c : Code} {A : Nat → Prop} {post : zH → Prop} (hG : xGG E G) (C : zCx p s m args meth c E G A 4 99 prog_2_method_16_code 3 cn_P) (hr : meth.sig.returnType = none)  (h : zH) (hw : b_P_settle_40 post  h) : zGo p l e s m args below meth c E A 4 99 3 (zPv post) h 40 [none, none, none] [] := by
  unfold b_P_settle_40 at hw
  exact z_vret C hr d_P_settle_40 hw
set_option maxRecDepth 100000 in
set_option maxHeartbeats 4000000 in
theorem w_P_settle_8 {l : Launch} {E : zE} {G : (Nat → Prop) → State → Prop} {p : Program} {e : Env} {s : State} {m : MethodId} {args : Array Value} {below : List Frame} {meth : Method} {c : Code} {A : Nat → Prop} {post : zH → Prop} (hG : xGG E G) (C : zCx p s m args meth c E G A 4 99 prog_2_method_16_code 3 cn_P) (hr : meth.sig.returnType = none) : ∀ (n : Nat) (l1 : Int32) (l2 : Int32) (h : zH), b_P_settle_8 post n l1 l2 h → zGo p l e s m args below meth c E A 4 99 3 (zPv post) h 8 [some (.ref (E.2.2.1 29)), some (.int l1), some (.int l2)] [] := by
  intro n
  induction n with
  | zero => intro l1 l2 h hw; exact False.elim hw
  | succ n hrc =>
    intro l1 l2 h hw
    unfold b_P_settle_8 at hw
    refine z_iload_n C (i := 2) d_P_settle_8 rfl rfl ?_
    refine z_if_le C (tgt := 40) d_P_settle_9 (by decide) (fun q => ?_) (fun q => ?_)
    · replace hw := hw.1 q
      refine z_le (lv2 := [none, none, none]) (trivial) ?_
      exact w_P_settle_40 hG C hr  _ hw
    · replace hw := hw.2 q
      refine z_aload_n C (i := 0) d_P_settle_12 rfl rfl ?_
      refine z_getI C (ci := 4) (j := 10) (F := cf_P) (by decide) rfl rfl in_P (by decide) fl_P_42 rfl d_P_settle_13 ?_
      refine z_if_ne C (tgt := 40) d_P_settle_16 (by decide) (fun q => ?_) (fun q => ?_)
      · replace hw := hw.1 q
        refine z_le (lv2 := [none, none, none]) (trivial) ?_
        exact w_P_settle_40 hG C hr  _ hw
      · replace hw := hw.2 q
        refine z_aload_n C (i := 0) d_P_settle_19 rfl rfl ?_
        refine z_getS C (ci := 4) (j := 2) (F := cf_P) (by decide) rfl rfl in_P (by decide) fl_P_12 rfl d_P_settle_20 ?_
        refine z_callVNi ⟨xN_ok, hG.1⟩ zT_good C (t_G_topStrength hG hw) wn_G_topStrength nl_P_169 (by decide) rfl rfl (by decide) (by decide) pl_G_topStrength rfl rfl (Nat.le_of_ble_eq_true rfl) d_P_settle_23 (fun r1 h2 hw => ?_)
        refine z_iload_n C (i := 1) d_P_settle_26 rfl rfl ?_
        refine z_icmp_lt C (tgt := 40) d_P_settle_27 (by decide) (fun q => ?_) (fun q => ?_)
        · replace hw := hw.1 q
          refine z_le (lv2 := [none, none, none]) (trivial) ?_
          exact w_P_settle_40 hG C hr  _ hw
        · replace hw := hw.2 q
          refine z_aload_n C (i := 0) d_P_settle_30 rfl rfl ?_
          refine z_callVv ⟨xN_ok, hG.1⟩ zT_good C (t_P_combine hG hw) ol_P_182 (by decide) rfl rfl (by decide) (by decide) pl_P_combine rfl rfl (Nat.le_of_ble_eq_true rfl) d_P_settle_31 (fun h4 hw => ?_)
          refine z_iinc C (v := l2 + (-1)) d_P_settle_34 rfl rfl (by decide) rfl ?_
          refine z_goto C (tgt := 8) d_P_settle_37 (by decide) ?_
          refine z_le (lv2 := [some (.ref (E.2.2.1 29)), some (.int l1), some (.int (l2 + (-1)))]) (⟨rfl, ⟨rfl, ⟨rfl, trivial⟩⟩⟩) ?_
          exact hrc _ _ _ hw
set_option maxRecDepth 100000 in
set_option maxHeartbeats 4000000 in
theorem t_P_settle {l : Launch} {E : zE} {G : (Nat → Prop) → State → Prop} (hG : xGG E G) {l1 : Int32} {h : zH} {post : zH → Prop} (hw : wp_P_settle l1 h post) : Ct l xX E xcl xN zT G 4 99 y_P_settle prog_2_method_16_code 3 none [.ref (E.2.2.1 29), .int l1] h (zPv post) := by
  unfold wp_P_settle at hw
  refine Ct.of (by decide) (Nat.le_of_ble_eq_true rfl) ?_
  intro p e s m below meth c A C hr
  refine z_lv (lv2 := [some (.ref (E.2.2.1 29)), some (.int l1), none]) rfl ?_
  refine z_aload_n C (i := 0) d_P_settle_0 rfl rfl ?_
  refine z_getS C (ci := 4) (j := 2) (F := cf_P) (by decide) rfl rfl in_P (by decide) fl_P_12 rfl d_P_settle_1 ?_
  refine z_getIN C (ci := 6) (j := 3) (F := cf_G) (by decide) rfl rfl in_G (by decide) fn_P_199 rfl d_P_settle_4 ?_
  refine z_istore_n C (i := 2) d_P_settle_7 rfl (by decide) rfl ?_
  refine z_le (lv2 := [some (.ref (E.2.2.1 29)), some (.int l1), some (.int (h.1 31 3))]) (⟨rfl, ⟨rfl, ⟨rfl, trivial⟩⟩⟩) ?_
  obtain ⟨n, hw⟩ := hw
  exact w_P_settle_8 hG C hr n _ _ _ hw
theorem d_R_isFunction_0 : decode prog_1_method_13_code 0 = .ok (.iload_n 0, 1) := by decide +kernel
theorem d_R_isFunction_1 : decode prog_1_method_13_code 1 = .ok (.bipush (23), 2) := by decide +kernel
theorem d_R_isFunction_3 : decode prog_1_method_13_code 3 = .ok (.if_icmp .eq (15), 3) := by decide +kernel
theorem d_R_isFunction_6 : decode prog_1_method_13_code 6 = .ok (.iload_n 0, 1) := by decide +kernel
theorem d_R_isFunction_7 : decode prog_1_method_13_code 7 = .ok (.bipush (24), 2) := by decide +kernel
theorem d_R_isFunction_9 : decode prog_1_method_13_code 9 = .ok (.if_icmp .eq (9), 3) := by decide +kernel
theorem d_R_isFunction_12 : decode prog_1_method_13_code 12 = .ok (.iload_n 0, 1) := by decide +kernel
theorem d_R_isFunction_13 : decode prog_1_method_13_code 13 = .ok (.bipush (25), 2) := by decide +kernel
theorem d_R_isFunction_15 : decode prog_1_method_13_code 15 = .ok (.if_icmp .ne (7), 3) := by decide +kernel
theorem d_R_isFunction_18 : decode prog_1_method_13_code 18 = .ok (.iconst 1, 1) := by decide +kernel
theorem d_R_isFunction_19 : decode prog_1_method_13_code 19 = .ok (.goto (4), 3) := by decide +kernel
theorem d_R_isFunction_22 : decode prog_1_method_13_code 22 = .ok (.iconst 0, 1) := by decide +kernel
theorem d_R_isFunction_23 : decode prog_1_method_13_code 23 = .ok (.ireturn, 1) := by decide +kernel
def b_R_isFunction_23 (post : Int32 → zH → Prop) (s0 : Int32) (h : zH) : Prop := (narrow .boolean (.int s0) = .int s0 ∧ post s0 h)
def b_R_isFunction_18 (post : Int32 → zH → Prop) (h : zH) : Prop := b_R_isFunction_23 post (1) h
def wp_R_isFunction (l0 : Int32) (h : zH) (post : Int32 → zH → Prop) : Prop := ((l0 = 23 → b_R_isFunction_18 post  h) ∧ (¬ l0 = 23 → ((l0 = 24 → b_R_isFunction_18 post  h) ∧ (¬ l0 = 24 → ((¬ l0 = 25 → b_R_isFunction_23 post (0) h) ∧ (l0 = 25 → b_R_isFunction_18 post  h))))))
set_option maxRecDepth 100000 in
set_option maxHeartbeats 4000000 in
theorem w_R_isFunction_23 {l : Launch} {E : zE} {G : (Nat → Prop) → State → Prop} {p : Program} {e : Env} {s : State} {m : MethodId} {args : Array Value} {below : List Frame} {meth : Method} {c : Code} {A : Nat → Prop} {post : Int32 → zH → Prop} (hG : xGG E G) (C : zCx p s m args meth c E G A 0 0 prog_1_method_13_code 1 cn_R) (hr : meth.sig.returnType = (some .boolean))  (s0 : Int32) (h : zH) (hw : b_R_isFunction_23 post s0 h) : zGo p l e s m args below meth c E A 0 0 1 (zPi post) h 23 [none] [.int s0] := by
  unfold b_R_isFunction_23 at hw
  exact z_zret C hr hw.1 d_R_isFunction_23 hw.2
set_option maxRecDepth 100000 in
set_option maxHeartbeats 4000000 in
theorem w_R_isFunction_18 {l : Launch} {E : zE} {G : (Nat → Prop) → State → Prop} {p : Program} {e : Env} {s : State} {m : MethodId} {args : Array Value} {below : List Frame} {meth : Method} {c : Code} {A : Nat → Prop} {post : Int32 → zH → Prop} (hG : xGG E G) (C : zCx p s m args meth c E G A 0 0 prog_1_method_13_code 1 cn_R) (hr : meth.sig.returnType = (some .boolean))  (h : zH) (hw : b_R_isFunction_18 post  h) : zGo p l e s m args below meth c E A 0 0 1 (zPi post) h 18 [none] [] := by
  unfold b_R_isFunction_18 at hw
  refine z_iconst C (v := 1) d_R_isFunction_18 (by decide) ?_
  refine z_goto C (tgt := 23) d_R_isFunction_19 (by decide) ?_
  refine z_le (lv2 := [none]) (trivial) ?_
  exact w_R_isFunction_23 hG C hr _ _ hw
set_option maxRecDepth 100000 in
set_option maxHeartbeats 4000000 in
theorem t_R_isFunction {l : Launch} {E : zE} {G : (Nat → Prop) → State → Prop} (hG : xGG E G) {l0 : Int32} {h : zH} {post : Int32 → zH → Prop} (hw : wp_R_isFunction l0 h post) : Ct l xX E xcl xN zT G 0 0 y_R_isFunction prog_1_method_13_code 1 (some .boolean) [.int l0] h (zPi post) := by
  unfold wp_R_isFunction at hw
  refine Ct.of (by decide) (Nat.le_of_ble_eq_true rfl) ?_
  intro p e s m below meth c A C hr
  refine z_lv (lv2 := [some (.int l0)]) rfl ?_
  refine z_iload_n C (i := 0) d_R_isFunction_0 rfl rfl ?_
  refine z_bipush C (v := 23) d_R_isFunction_1 (by decide) ?_
  refine z_icmp_eq C (tgt := 18) d_R_isFunction_3 (by decide) (fun q => ?_) (fun q => ?_)
  · replace hw := hw.1 q
    refine z_le (lv2 := [none]) (trivial) ?_
    exact w_R_isFunction_18 hG C hr  _ hw
  · replace hw := hw.2 q
    refine z_iload_n C (i := 0) d_R_isFunction_6 rfl rfl ?_
    refine z_bipush C (v := 24) d_R_isFunction_7 (by decide) ?_
    refine z_icmp_eq C (tgt := 18) d_R_isFunction_9 (by decide) (fun q => ?_) (fun q => ?_)
    · replace hw := hw.1 q
      refine z_le (lv2 := [none]) (trivial) ?_
      exact w_R_isFunction_18 hG C hr  _ hw
    · replace hw := hw.2 q
      refine z_iload_n C (i := 0) d_R_isFunction_12 rfl rfl ?_
      refine z_bipush C (v := 25) d_R_isFunction_13 (by decide) ?_
      refine z_icmp_ne C (tgt := 22) d_R_isFunction_15 (by decide) (fun q => ?_) (fun q => ?_)
      · replace hw := hw.1 q
        refine z_iconst C (v := 0) d_R_isFunction_22 (by decide) ?_
        refine z_le (lv2 := [none]) (trivial) ?_
        exact w_R_isFunction_23 hG C hr _ _ hw
      · replace hw := hw.2 q
        refine z_le (lv2 := [none]) (trivial) ?_
        exact w_R_isFunction_18 hG C hr  _ hw
theorem d_P_endTerm_0 : decode prog_2_method_13_code 0 = .ok (.aload_n 0, 1) := by decide +kernel
theorem d_P_endTerm_1 : decode prog_2_method_13_code 1 = .ok (.iconst 0, 1) := by decide +kernel
theorem d_P_endTerm_2 : decode prog_2_method_13_code 2 = .ok (.invokevirtual 165, 3) := by decide +kernel
theorem d_P_endTerm_5 : decode prog_2_method_13_code 5 = .ok (.aload_n 0, 1) := by decide +kernel
theorem d_P_endTerm_6 : decode prog_2_method_13_code 6 = .ok (.getfield 12, 3) := by decide +kernel
theorem d_P_endTerm_9 : decode prog_2_method_13_code 9 = .ok (.invokevirtual 173, 3) := by decide +kernel
theorem d_P_endTerm_12 : decode prog_2_method_13_code 12 = .ok (.istore_n 1, 1) := by decide +kernel
theorem d_P_endTerm_13 : decode prog_2_method_13_code 13 = .ok (.aload_n 0, 1) := by decide +kernel
theorem d_P_endTerm_14 : decode prog_2_method_13_code 14 = .ok (.getfield 12, 3) := by decide +kernel
theorem d_P_endTerm_17 : decode prog_2_method_13_code 17 = .ok (.invokevirtual 176, 3) := by decide +kernel
theorem d_P_endTerm_20 : decode prog_2_method_13_code 20 = .ok (.ifCond .ne (7), 3) := by decide +kernel
theorem d_P_endTerm_23 : decode prog_2_method_13_code 23 = .ok (.iconst 1, 1) := by decide +kernel
theorem d_P_endTerm_24 : decode prog_2_method_13_code 24 = .ok (.goto (4), 3) := by decide +kernel
theorem d_P_endTerm_27 : decode prog_2_method_13_code 27 = .ok (.iconst 0, 1) := by decide +kernel
theorem d_P_endTerm_28 : decode prog_2_method_13_code 28 = .ok (.istore_n 2, 1) := by decide +kernel
theorem d_P_endTerm_29 : decode prog_2_method_13_code 29 = .ok (.aload_n 0, 1) := by decide +kernel
theorem d_P_endTerm_30 : decode prog_2_method_13_code 30 = .ok (.getfield 42, 3) := by decide +kernel
theorem d_P_endTerm_33 : decode prog_2_method_13_code 33 = .ok (.ifCond .ne (18), 3) := by decide +kernel
theorem d_P_endTerm_36 : decode prog_2_method_13_code 36 = .ok (.iload_n 2, 1) := by decide +kernel
theorem d_P_endTerm_37 : decode prog_2_method_13_code 37 = .ok (.ifCond .eq (14), 3) := by decide +kernel
theorem d_P_endTerm_40 : decode prog_2_method_13_code 40 = .ok (.iload_n 1, 1) := by decide +kernel
theorem d_P_endTerm_41 : decode prog_2_method_13_code 41 = .ok (.invokestatic 179, 3) := by decide +kernel
theorem d_P_endTerm_44 : decode prog_2_method_13_code 44 = .ok (.ifCond .eq (7), 3) := by decide +kernel
theorem d_P_endTerm_47 : decode prog_2_method_13_code 47 = .ok (.aload_n 0, 1) := by decide +kernel
theorem d_P_endTerm_48 : decode prog_2_method_13_code 48 = .ok (.invokevirtual 182, 3) := by decide +kernel
theorem d_P_endTerm_51 : decode prog_2_method_13_code 51 = .ok (.aload_n 0, 1) := by decide +kernel
theorem d_P_endTerm_52 : decode prog_2_method_13_code 52 = .ok (.getfield 42, 3) := by decide +kernel
theorem d_P_endTerm_55 : decode prog_2_method_13_code 55 = .ok (.ifCond .ne (9), 3) := by decide +kernel
theorem d_P_endTerm_58 : decode prog_2_method_13_code 58 = .ok (.aload_n 0, 1) := by decide +kernel
theorem d_P_endTerm_59 : decode prog_2_method_13_code 59 = .ok (.iload_n 1, 1) := by decide +kernel
theorem d_P_endTerm_60 : decode prog_2_method_13_code 60 = .ok (.iload_n 2, 1) := by decide +kernel
theorem d_P_endTerm_61 : decode prog_2_method_13_code 61 = .ok (.invokevirtual 185, 3) := by decide +kernel
theorem d_P_endTerm_64 : decode prog_2_method_13_code 64 = .ok (.return_, 1) := by decide +kernel
def b_P_endTerm_64 (post : zH → Prop) (h : zH) : Prop := post h
def b_P_endTerm_51 (post : zH → Prop) (l1 : Int32) (l2 : Int32) (h : zH) : Prop := ((¬ (h.1 29 10) = 0 → b_P_endTerm_64 post  h) ∧ ((h.1 29 10) = 0 → wp_P_readBehindTerm (l1) (l2) h (fun (h2 : zH) => b_P_endTerm_64 post  h2)))
def b_P_endTerm_28 (post : zH → Prop) (l1 : Int32) (s0 : Int32) (h : zH) : Prop := ((¬ (h.1 29 10) = 0 → b_P_endTerm_51 post (l1) (s0) h) ∧ ((h.1 29 10) = 0 → ((s0 = 0 → b_P_endTerm_51 post (l1) (s0) h) ∧ (¬ s0 = 0 → wp_R_isFunction (l1) h (fun (r3 : Int32) (h4 : zH) => ((r3 = 0 → b_P_endTerm_51 post (l1) (s0) h4) ∧ (¬ r3 = 0 → wp_P_combine  h4 (fun (h6 : zH) => b_P_endTerm_51 post (l1) (s0) h6))))))))
def wp_P_endTerm (h : zH) (post : zH → Prop) : Prop := wp_P_settle (0) h (fun (h8 : zH) => wp_G_topCode  h8 (fun (r9 : Int32) (h10 : zH) => wp_G_topAwaited  h10 (fun (r11 : Int32) (h12 : zH) => ((¬ r11 = 0 → b_P_endTerm_28 post (r9) (0) h12) ∧ (r11 = 0 → b_P_endTerm_28 post (r9) (1) h12)))))
set_option maxRecDepth 100000 in
set_option maxHeartbeats 4000000 in
theorem w_P_endTerm_64 {l : Launch} {E : zE} {G : (Nat → Prop) → State → Prop} {p : Program} {e : Env} {s : State} {m : MethodId} {args : Array Value} {below : List Frame} {meth : Method} {c : Code} {A : Nat → Prop} {post : zH → Prop} (hG : xGG E G) (C : zCx p s m args meth c E G A 5 121 prog_2_method_13_code 3 cn_P) (hr : meth.sig.returnType = none)  (h : zH) (hw : b_P_endTerm_64 post  h) : zGo p l e s m args below meth c E A 5 121 3 (zPv post) h 64 [none, none, none] [] := by
  unfold b_P_endTerm_64 at hw
  exact z_vret C hr d_P_endTerm_64 hw
set_option maxRecDepth 100000 in
set_option maxHeartbeats 4000000 in
theorem w_P_endTerm_51 {l : Launch} {E : zE} {G : (Nat → Prop) → State → Prop} {p : Program} {e : Env} {s : State} {m : MethodId} {args : Array Value} {below : List Frame} {meth : Method} {c : Code} {A : Nat → Prop} {post : zH → Prop} (hG : xGG E G) (C : zCx p s m args meth c E G A 5 121 prog_2_method_13_code 3 cn_P) (hr : meth.sig.returnType = none)  (l1 : Int32) (l2 : Int32) (h : zH) (hw : b_P_endTerm_51 post l1 l2 h) : zGo p l e s m args below meth c E A 5 121 3 (zPv post) h 51 [some (.ref (E.2.2.1 29)), some (.int l1), some (.int l2)] [] := by
  unfold b_P_endTerm_51 at hw
  refine z_aload_n C (i := 0) d_P_endTerm_51 rfl rfl ?_
  refine z_getI C (ci := 4) (j := 10) (F := cf_P) (by decide) rfl rfl in_P (by decide) fl_P_42 rfl d_P_endTerm_52 ?_
  refine z_if_ne C (tgt := 64) d_P_endTerm_55 (by decide) (fun q => ?_) (fun q => ?_)
  · replace hw := hw.1 q
    refine z_le (lv2 := [none, none, none]) (trivial) ?_
    exact w_P_endTerm_64 hG C hr  _ hw
  · replace hw := hw.2 q
    refine z_aload_n C (i := 0) d_P_endTerm_58 rfl rfl ?_
    refine z_iload_n C (i := 1) d_P_endTerm_59 rfl rfl ?_
    refine z_iload_n C (i := 2) d_P_endTerm_60 rfl rfl ?_
    refine z_callVv ⟨xN_ok, hG.1⟩ zT_good C (t_P_readBehindTerm hG hw) ol_P_185 (by decide) rfl rfl (by decide) (by decide) pl_P_readBehindTerm rfl rfl (Nat.le_of_ble_eq_true rfl) d_P_endTerm_61 (fun h2 hw => ?_)
    refine z_le (lv2 := [none, none, none]) (trivial) ?_
    exact w_P_endTerm_64 hG C hr  _ hw
set_option maxRecDepth 100000 in
set_option maxHeartbeats 4000000 in
theorem w_P_endTerm_28 {l : Launch} {E : zE} {G : (Nat → Prop) → State → Prop} {p : Program} {e : Env} {s : State} {m : MethodId} {args : Array Value} {below : List Frame} {meth : Method} {c : Code} {A : Nat → Prop} {post : zH → Prop} (hG : xGG E G) (C : zCx p s m args meth c E G A 5 121 prog_2_method_13_code 3 cn_P) (hr : meth.sig.returnType = none)  (l1 : Int32) (s0 : Int32) (h : zH) (hw : b_P_endTerm_28 post l1 s0 h) : zGo p l e s m args below meth c E A 5 121 3 (zPv post) h 28 [some (.ref (E.2.2.1 29)), some (.int l1), none] [.int s0] := by
  unfold b_P_endTerm_28 at hw
  refine z_istore_n C (i := 2) d_P_endTerm_28 rfl (by decide) rfl ?_
  refine z_aload_n C (i := 0) d_P_endTerm_29 rfl rfl ?_
  refine z_getI C (ci := 4) (j := 10) (F := cf_P) (by decide) rfl rfl in_P (by decide) fl_P_42 rfl d_P_endTerm_30 ?_
  refine z_if_ne C (tgt := 51) d_P_endTerm_33 (by decide) (fun q => ?_) (fun q => ?_)
  · replace hw := hw.1 q
    refine z_le (lv2 := [some (.ref (E.2.2.1 29)), some (.int l1), some (.int s0)]) (⟨rfl, ⟨rfl, ⟨rfl, trivial⟩⟩⟩) ?_
    exact w_P_endTerm_51 hG C hr _ _ _ hw
  · replace hw := hw.2 q
    refine z_iload_n C (i := 2) d_P_endTerm_36 rfl rfl ?_
    refine z_if_eq C (tgt := 51) d_P_endTerm_37 (by decide) (fun q => ?_) (fun q => ?_)
    · replace hw := hw.1 q
      refine z_le (lv2 := [some (.ref (E.2.2.1 29)), some (.int l1), some (.int s0)]) (⟨rfl, ⟨rfl, ⟨rfl, trivial⟩⟩⟩) ?_
      exact w_P_endTerm_51 hG C hr _ _ _ hw
    · replace hw := hw.2 q
      refine z_iload_n C (i := 1) d_P_endTerm_40 rfl rfl ?_
      refine z_callSNi ⟨xN_ok, hG.1⟩ zT_good C (t_R_isFunction hG hw) wn_R_isFunction nl_P_179 (by decide) (by decide) pl_R_isFunction rfl rfl (Nat.le_of_ble_eq_true rfl) d_P_endTerm_41 (fun r3 h4 hw => ?_)
      refine z_if_eq C (tgt := 51) d_P_endTerm_44 (by decide) (fun q => ?_) (fun q => ?_)
      · replace hw := hw.1 q
        refine z_le (lv2 := [some (.ref (E.2.2.1 29)), some (.int l1), some (.int s0)]) (⟨rfl, ⟨rfl, ⟨rfl, trivial⟩⟩⟩) ?_
        exact w_P_endTerm_51 hG C hr _ _ _ hw
      · replace hw := hw.2 q
        refine z_aload_n C (i := 0) d_P_endTerm_47 rfl rfl ?_
        refine z_callVv ⟨xN_ok, hG.1⟩ zT_good C (t_P_combine hG hw) ol_P_182 (by decide) rfl rfl (by decide) (by decide) pl_P_combine rfl rfl (Nat.le_of_ble_eq_true rfl) d_P_endTerm_48 (fun h6 hw => ?_)
        refine z_le (lv2 := [some (.ref (E.2.2.1 29)), some (.int l1), some (.int s0)]) (⟨rfl, ⟨rfl, ⟨rfl, trivial⟩⟩⟩) ?_
        exact w_P_endTerm_51 hG C hr _ _ _ hw
set_option maxRecDepth 100000 in
set_option maxHeartbeats 4000000 in
theorem t_P_endTerm {l : Launch} {E : zE} {G : (Nat → Prop) → State → Prop} (hG : xGG E G) {h : zH} {post : zH → Prop} (hw : wp_P_endTerm  h post) : Ct l xX E xcl xN zT G 5 121 y_P_endTerm prog_2_method_13_code 3 none [.ref (E.2.2.1 29)] h (zPv post) := by
  unfold wp_P_endTerm at hw
  refine Ct.of (by decide) (Nat.le_of_ble_eq_true rfl) ?_
  intro p e s m below meth c A C hr
  refine z_lv (lv2 := [some (.ref (E.2.2.1 29)), none, none]) rfl ?_
  refine z_aload_n C (i := 0) d_P_endTerm_0 rfl rfl ?_
  refine z_iconst C (v := 0) d_P_endTerm_1 (by decide) ?_
  refine z_callVv ⟨xN_ok, hG.1⟩ zT_good C (t_P_settle hG hw) ol_P_165 (by decide) rfl rfl (by decide) (by decide) pl_P_settle rfl rfl (Nat.le_of_ble_eq_true rfl) d_P_endTerm_2 (fun h8 hw => ?_)
  refine z_aload_n C (i := 0) d_P_endTerm_5 rfl rfl ?_
  refine z_getS C (ci := 4) (j := 2) (F := cf_P) (by decide) rfl rfl in_P (by decide) fl_P_12 rfl d_P_endTerm_6 ?_
  refine z_callVNi ⟨xN_ok, hG.1⟩ zT_good C (t_G_topCode hG hw) wn_G_topCode nl_P_173 (by decide) rfl rfl (by decide) (by decide) pl_G_topCode rfl rfl (Nat.le_of_ble_eq_true rfl) d_P_endTerm_9 (fun r9 h10 hw => ?_)
  refine z_istore_n C (i := 1) d_P_endTerm_12 rfl (by decide) rfl ?_
  refine z_aload_n C (i := 0) d_P_endTerm_13 rfl rfl ?_
  refine z_getS C (ci := 4) (j := 2) (F := cf_P) (by decide) rfl rfl in_P (by decide) fl_P_12 rfl d_P_endTerm_14 ?_
  refine z_callVNi ⟨xN_ok, hG.1⟩ zT_good C (t_G_topAwaited hG hw) wn_G_topAwaited nl_P_176 (by decide) rfl rfl (by decide) (by decide) pl_G_topAwaited rfl rfl (Nat.le_of_ble_eq_true rfl) d_P_endTerm_17 (fun r11 h12 hw => ?_)
  refine z_if_ne C (tgt := 27) d_P_endTerm_20 (by decide) (fun q => ?_) (fun q => ?_)
  · replace hw := hw.1 q
    refine z_iconst C (v := 0) d_P_endTerm_27 (by decide) ?_
    refine z_le (lv2 := [some (.ref (E.2.2.1 29)), some (.int r9), none]) (⟨rfl, ⟨rfl, trivial⟩⟩) ?_
    exact w_P_endTerm_28 hG C hr _ _ _ hw
  · replace hw := hw.2 q
    refine z_iconst C (v := 1) d_P_endTerm_23 (by decide) ?_
    refine z_goto C (tgt := 28) d_P_endTerm_24 (by decide) ?_
    refine z_le (lv2 := [some (.ref (E.2.2.1 29)), some (.int r9), none]) (⟨rfl, ⟨rfl, trivial⟩⟩) ?_
    exact w_P_endTerm_28 hG C hr _ _ _ hw
theorem d_P_leastSettledBy_0 : decode prog_2_method_12_code 0 = .ok (.iload_n 0, 1) := by decide +kernel
theorem d_P_leastSettledBy_1 : decode prog_2_method_12_code 1 = .ok (.ifCond .eq (8), 3) := by decide +kernel
theorem d_P_leastSettledBy_4 : decode prog_2_method_12_code 4 = .ok (.iload_n 0, 1) := by decide +kernel
theorem d_P_leastSettledBy_5 : decode prog_2_method_12_code 5 = .ok (.iconst 3, 1) := by decide +kernel
theorem d_P_leastSettledBy_6 : decode prog_2_method_12_code 6 = .ok (.if_icmp .ne (7), 3) := by decide +kernel
theorem d_P_leastSettledBy_9 : decode prog_2_method_12_code 9 = .ok (.iconst 1, 1) := by decide +kernel
theorem d_P_leastSettledBy_10 : decode prog_2_method_12_code 10 = .ok (.goto (4), 3) := by decide +kernel
theorem d_P_leastSettledBy_13 : decode prog_2_method_12_code 13 = .ok (.iconst 0, 1) := by decide +kernel
theorem d_P_leastSettledBy_14 : decode prog_2_method_12_code 14 = .ok (.istore_n 1, 1) := by decide +kernel
theorem d_P_leastSettledBy_15 : decode prog_2_method_12_code 15 = .ok (.iload_n 1, 1) := by decide +kernel
theorem d_P_leastSettledBy_16 : decode prog_2_method_12_code 16 = .ok (.ifCond .eq (9), 3) := by decide +kernel
theorem d_P_leastSettledBy_19 : decode prog_2_method_12_code 19 = .ok (.iload_n 0, 1) := by decide +kernel
theorem d_P_leastSettledBy_20 : decode prog_2_method_12_code 20 = .ok (.iconst 1, 1) := by decide +kernel
theorem d_P_leastSettledBy_21 : decode prog_2_method_12_code 21 = .ok (.iadd, 1) := by decide +kernel
theorem d_P_leastSettledBy_22 : decode prog_2_method_12_code 22 = .ok (.goto (4), 3) := by decide +kernel
theorem d_P_leastSettledBy_25 : decode prog_2_method_12_code 25 = .ok (.iload_n 0, 1) := by decide +kernel
theorem d_P_leastSettledBy_26 : decode prog_2_method_12_code 26 = .ok (.ireturn, 1) := by decide +kernel
def b_P_leastSettledBy_26 (post : Int32 → zH → Prop) (s0 : Int32) (h : zH) : Prop := post s0 h
def b_P_leastSettledBy_14 (post : Int32 → zH → Prop) (l0 : Int32) (s0 : Int32) (h : zH) : Prop := ((s0 = 0 → b_P_leastSettledBy_26 post (l0) h) ∧ (¬ s0 = 0 → b_P_leastSettledBy_26 post ((l0 + 1)) h))
def b_P_leastSettledBy_9 (post : Int32 → zH → Prop) (l0 : Int32) (h : zH) : Prop := b_P_leastSettledBy_14 post (l0) (1) h
def wp_P_leastSettledBy (l0 : Int32) (h : zH) (post : Int32 → zH → Prop) : Prop := ((l0 = 0 → b_P_leastSettledBy_9 post (l0) h) ∧ (¬ l0 = 0 → ((¬ l0 = 3 → b_P_leastSettledBy_14 post (l0) (0) h) ∧ (l0 = 3 → b_P_leastSettledBy_9 post (l0) h))))
set_option maxRecDepth 100000 in
set_option maxHeartbeats 4000000 in
theorem w_P_leastSettledBy_26 {l : Launch} {E : zE} {G : (Nat → Prop) → State → Prop} {p : Program} {e : Env} {s : State} {m : MethodId} {args : Array Value} {below : List Frame} {meth : Method} {c : Code} {A : Nat → Prop} {post : Int32 → zH → Prop} (hG : xGG E G) (C : zCx p s m args meth c E G A 0 0 prog_2_method_12_code 2 cn_P) (hr : meth.sig.returnType = (some .int))  (s0 : Int32) (h : zH) (hw : b_P_leastSettledBy_26 post s0 h) : zGo p l e s m args below meth c E A 0 0 2 (zPi post) h 26 [none, none] [.int s0] := by
  unfold b_P_leastSettledBy_26 at hw
  exact z_iret C hr d_P_leastSettledBy_26 hw
set_option maxRecDepth 100000 in
set_option maxHeartbeats 4000000 in
theorem w_P_leastSettledBy_14 {l : Launch} {E : zE} {G : (Nat → Prop) → State → Prop} {p : Program} {e : Env} {s : State} {m : MethodId} {args : Array Value} {below : List Frame} {meth : Method} {c : Code} {A : Nat → Prop} {post : Int32 → zH → Prop} (hG : xGG E G) (C : zCx p s m args meth c E G A 0 0 prog_2_method_12_code 2 cn_P) (hr : meth.sig.returnType = (some .int))  (l0 : Int32) (s0 : Int32) (h : zH) (hw : b_P_leastSettledBy_14 post l0 s0 h) : zGo p l e s m args below meth c E A 0 0 2 (zPi post) h 14 [some (.int l0), none] [.int s0] := by
  unfold b_P_leastSettledBy_14 at hw
  refine z_istore_n C (i := 1) d_P_leastSettledBy_14 rfl (by decide) rfl ?_
  refine z_iload_n C (i := 1) d_P_leastSettledBy_15 rfl rfl ?_
  refine z_if_eq C (tgt := 25) d_P_leastSettledBy_16 (by decide) (fun q => ?_) (fun q => ?_)
  · replace hw := hw.1 q
    refine z_iload_n C (i := 0) d_P_leastSettledBy_25 rfl rfl ?_
    refine z_le (lv2 := [none, none]) (trivial) ?_
    exact w_P_leastSettledBy_26 hG C hr _ _ hw
  · replace hw := hw.2 q
    refine z_iload_n C (i := 0) d_P_leastSettledBy_19 rfl rfl ?_
    refine z_iconst C (v := 1) d_P_leastSettledBy_20 (by decide) ?_
    refine z_iadd C d_P_leastSettledBy_21 ?_
    refine z_goto C (tgt := 26) d_P_leastSettledBy_22 (by decide) ?_
    refine z_le (lv2 := [none, none]) (trivial) ?_
    exact w_P_leastSettledBy_26 hG C hr _ _ hw
set_option maxRecDepth 100000 in
set_option maxHeartbeats 4000000 in
theorem w_P_leastSettledBy_9 {l : Launch} {E : zE} {G : (Nat → Prop) → State → Prop} {p : Program} {e : Env} {s : State} {m : MethodId} {args : Array Value} {below : List Frame} {meth : Method} {c : Code} {A : Nat → Prop} {post : Int32 → zH → Prop} (hG : xGG E G) (C : zCx p s m args meth c E G A 0 0 prog_2_method_12_code 2 cn_P) (hr : meth.sig.returnType = (some .int))  (l0 : Int32) (h : zH) (hw : b_P_leastSettledBy_9 post l0 h) : zGo p l e s m args below meth c E A 0 0 2 (zPi post) h 9 [some (.int l0), none] [] := by
  unfold b_P_leastSettledBy_9 at hw
  refine z_iconst C (v := 1) d_P_leastSettledBy_9 (by decide) ?_
  refine z_goto C (tgt := 14) d_P_leastSettledBy_10 (by decide) ?_
  refine z_le (lv2 := [some (.int l0), none]) (⟨rfl, trivial⟩) ?_
  exact w_P_leastSettledBy_14 hG C hr _ _ _ hw
set_option maxRecDepth 100000 in
set_option maxHeartbeats 4000000 in
theorem t_P_leastSettledBy {l : Launch} {E : zE} {G : (Nat → Prop) → State → Prop} (hG : xGG E G) {l0 : Int32} {h : zH} {post : Int32 → zH → Prop} (hw : wp_P_leastSettledBy l0 h post) : Ct l xX E xcl xN zT G 0 0 y_P_leastSettledBy prog_2_method_12_code 2 (some .int) [.int l0] h (zPi post) := by
  unfold wp_P_leastSettledBy at hw
  refine Ct.of (by decide) (Nat.le_of_ble_eq_true rfl) ?_
  intro p e s m below meth c A C hr
  refine z_lv (lv2 := [some (.int l0), none]) rfl ?_
  refine z_iload_n C (i := 0) d_P_leastSettledBy_0 rfl rfl ?_
  refine z_if_eq C (tgt := 9) d_P_leastSettledBy_1 (by decide) (fun q => ?_) (fun q => ?_)
  · replace hw := hw.1 q
    refine z_le (lv2 := [some (.int l0), none]) (⟨rfl, trivial⟩) ?_
    exact w_P_leastSettledBy_9 hG C hr _ _ hw
  · replace hw := hw.2 q
    refine z_iload_n C (i := 0) d_P_leastSettledBy_4 rfl rfl ?_
    refine z_iconst C (v := 3) d_P_leastSettledBy_5 (by decide) ?_
    refine z_icmp_ne C (tgt := 13) d_P_leastSettledBy_6 (by decide) (fun q => ?_) (fun q => ?_)
    · replace hw := hw.1 q
      refine z_iconst C (v := 0) d_P_leastSettledBy_13 (by decide) ?_
      refine z_le (lv2 := [some (.int l0), none]) (⟨rfl, trivial⟩) ?_
      exact w_P_leastSettledBy_14 hG C hr _ _ _ hw
    · replace hw := hw.2 q
      refine z_le (lv2 := [some (.int l0), none]) (⟨rfl, trivial⟩) ?_
      exact w_P_leastSettledBy_9 hG C hr _ _ hw
theorem d_P_nest_0 : decode prog_2_method_8_code 0 = .ok (.aload_n 0, 1) := by decide +kernel
theorem d_P_nest_1 : decode prog_2_method_8_code 1 = .ok (.getfield 12, 3) := by decide +kernel
theorem d_P_nest_4 : decode prog_2_method_8_code 4 = .ok (.getfield 130, 3) := by decide +kernel
theorem d_P_nest_7 : decode prog_2_method_8_code 7 = .ok (.bipush (32), 2) := by decide +kernel
theorem d_P_nest_9 : decode prog_2_method_8_code 9 = .ok (.if_icmp .lt (18), 3) := by decide +kernel
theorem d_P_nest_12 : decode prog_2_method_8_code 12 = .ok (.aload_n 0, 1) := by decide +kernel
theorem d_P_nest_13 : decode prog_2_method_8_code 13 = .ok (.iconst 5, 1) := by decide +kernel
theorem d_P_nest_14 : decode prog_2_method_8_code 14 = .ok (.aload_n 0, 1) := by decide +kernel
theorem d_P_nest_15 : decode prog_2_method_8_code 15 = .ok (.getfield 54, 3) := by decide +kernel
theorem d_P_nest_18 : decode prog_2_method_8_code 18 = .ok (.getfield 100, 3) := by decide +kernel
theorem d_P_nest_21 : decode prog_2_method_8_code 21 = .ok (.invokevirtual 114, 3) := by decide +kernel
theorem d_P_nest_24 : decode prog_2_method_8_code 24 = .ok (.goto (23), 3) := by decide +kernel
theorem d_P_nest_27 : decode prog_2_method_8_code 27 = .ok (.aload_n 0, 1) := by decide +kernel
theorem d_P_nest_28 : decode prog_2_method_8_code 28 = .ok (.getfield 12, 3) := by decide +kernel
theorem d_P_nest_31 : decode prog_2_method_8_code 31 = .ok (.iload_n 1, 1) := by decide +kernel
theorem d_P_nest_32 : decode prog_2_method_8_code 32 = .ok (.aload_n 0, 1) := by decide +kernel
theorem d_P_nest_33 : decode prog_2_method_8_code 33 = .ok (.getfield 54, 3) := by decide +kernel
theorem d_P_nest_36 : decode prog_2_method_8_code 36 = .ok (.getfield 100, 3) := by decide +kernel
theorem d_P_nest_39 : decode prog_2_method_8_code 39 = .ok (.invokevirtual 133, 3) := by decide +kernel
theorem d_P_nest_42 : decode prog_2_method_8_code 42 = .ok (.aload_n 0, 1) := by decide +kernel
theorem d_P_nest_43 : decode prog_2_method_8_code 43 = .ok (.iload_n 2, 1) := by decide +kernel
theorem d_P_nest_44 : decode prog_2_method_8_code 44 = .ok (.putfield 39, 3) := by decide +kernel
theorem d_P_nest_47 : decode prog_2_method_8_code 47 = .ok (.return_, 1) := by decide +kernel
def b_P_nest_47 (post : zH → Prop) (h : zH) : Prop := post h
def wp_P_nest (l1 : Int32) (l2 : Int32) (h : zH) (post : zH → Prop) : Prop := (((h.1 31 4) < 32 → wp_G_push (l1) ((h.1 30 3)) h (fun (h2 : zH) => (∀ h3 : zH, h3 = zi h2 29 9 l2 → b_P_nest_47 post  h3))) ∧ (¬ (h.1 31 4) < 32 → wp_P_blame (5) ((h.1 30 3)) h (fun (h5 : zH) => b_P_nest_47 post  h5)))
set_option maxRecDepth 100000 in
set_option maxHeartbeats 4000000 in
theorem w_P_nest_47 {l : Launch} {E : zE} {G : (Nat → Prop) → State → Prop} {p : Program} {e : Env} {s : State} {m : MethodId} {args : Array Value} {below : List Frame} {meth : Method} {c : Code} {A : Nat → Prop} {post : zH → Prop} (hG : xGG E G) (C : zCx p s m args meth c E G A 2 42 prog_2_method_8_code 3 cn_P) (hr : meth.sig.returnType = none)  (h : zH) (hw : b_P_nest_47 post  h) : zGo p l e s m args below meth c E A 2 42 3 (zPv post) h 47 [none, none, none] [] := by
  unfold b_P_nest_47 at hw
  exact z_vret C hr d_P_nest_47 hw
set_option maxRecDepth 100000 in
set_option maxHeartbeats 4000000 in
theorem t_P_nest {l : Launch} {E : zE} {G : (Nat → Prop) → State → Prop} (hG : xGG E G) {l1 : Int32} {l2 : Int32} {h : zH} {post : zH → Prop} (hw : wp_P_nest l1 l2 h post) : Ct l xX E xcl xN zT G 2 42 y_P_nest prog_2_method_8_code 3 none [.ref (E.2.2.1 29), .int l1, .int l2] h (zPv post) := by
  unfold wp_P_nest at hw
  refine Ct.of (by decide) (Nat.le_of_ble_eq_true rfl) ?_
  intro p e s m below meth c A C hr
  refine z_lv (lv2 := [some (.ref (E.2.2.1 29)), some (.int l1), some (.int l2)]) rfl ?_
  refine z_aload_n C (i := 0) d_P_nest_0 rfl rfl ?_
  refine z_getS C (ci := 4) (j := 2) (F := cf_P) (by decide) rfl rfl in_P (by decide) fl_P_12 rfl d_P_nest_1 ?_
  refine z_getIN C (ci := 6) (j := 4) (F := cf_G) (by decide) rfl rfl in_G (by decide) fn_P_130 rfl d_P_nest_4 ?_
  refine z_bipush C (v := 32) d_P_nest_7 (by decide) ?_
  refine z_icmp_lt C (tgt := 27) d_P_nest_9 (by decide) (fun q => ?_) (fun q => ?_)
  · replace hw := hw.1 q
    refine z_aload_n C (i := 0) d_P_nest_27 rfl rfl ?_
    refine z_getS C (ci := 4) (j := 2) (F := cf_P) (by decide) rfl rfl in_P (by decide) fl_P_12 rfl d_P_nest_28 ?_
    refine z_iload_n C (i := 1) d_P_nest_31 rfl rfl ?_
    refine z_aload_n C (i := 0) d_P_nest_32 rfl rfl ?_
    refine z_getS C (ci := 4) (j := 1) (F := cf_P) (by decide) rfl rfl in_P (by decide) fl_P_54 rfl d_P_nest_33 ?_
    refine z_getIN C (ci := 5) (j := 3) (F := cf_K) (by decide) rfl rfl in_K (by decide) fn_P_100 rfl d_P_nest_36 ?_
    refine z_callVNv ⟨xN_ok, hG.1⟩ zT_good C (t_G_push hG hw) wn_G_push nl_P_133 (by decide) rfl rfl (by decide) (by decide) pl_G_push rfl rfl (Nat.le_of_ble_eq_true rfl) d_P_nest_39 (fun h2 hw => ?_)
    refine z_aload_n C (i := 0) d_P_nest_42 rfl rfl ?_
    refine z_iload_n C (i := 2) d_P_nest_43 rfl rfl ?_
    refine z_putI C (ci := 4) (j := 9) (F := cf_P) ct_P (by decide) rfl rfl in_P ty_P nm_P (by decide) fl_P_39 rfl (by decide +kernel) rfl d_P_nest_44 (fun h3 eh3 => ?_)
    replace hw := hw h3 eh3
    refine z_le (lv2 := [none, none, none]) (trivial) ?_
    exact w_P_nest_47 hG C hr  _ hw
  · replace hw := hw.2 q
    refine z_aload_n C (i := 0) d_P_nest_12 rfl rfl ?_
    refine z_iconst C (v := 5) d_P_nest_13 (by decide) ?_
    refine z_aload_n C (i := 0) d_P_nest_14 rfl rfl ?_
    refine z_getS C (ci := 4) (j := 1) (F := cf_P) (by decide) rfl rfl in_P (by decide) fl_P_54 rfl d_P_nest_15 ?_
    refine z_getIN C (ci := 5) (j := 3) (F := cf_K) (by decide) rfl rfl in_K (by decide) fn_P_100 rfl d_P_nest_18 ?_
    refine z_callVv ⟨xN_ok, hG.1⟩ zT_good C (t_P_blame hG hw) ol_P_114 (by decide) rfl rfl (by decide) (by decide) pl_P_blame rfl rfl (Nat.le_of_ble_eq_true rfl) d_P_nest_21 (fun h5 hw => ?_)
    refine z_goto C (tgt := 47) d_P_nest_24 (by decide) ?_
    refine z_le (lv2 := [none, none, none]) (trivial) ?_
    exact w_P_nest_47 hG C hr  _ hw
theorem d_P_goesOn_0 : decode prog_2_method_11_code 0 = .ok (.aload_n 0, 1) := by decide +kernel
theorem d_P_goesOn_1 : decode prog_2_method_11_code 1 = .ok (.getfield 54, 3) := by decide +kernel
theorem d_P_goesOn_4 : decode prog_2_method_11_code 4 = .ok (.getfield 90, 3) := by decide +kernel
theorem d_P_goesOn_7 : decode prog_2_method_11_code 7 = .ok (.istore_n 1, 1) := by decide +kernel
theorem d_P_goesOn_8 : decode prog_2_method_11_code 8 = .ok (.iload_n 1, 1) := by decide +kernel
theorem d_P_goesOn_9 : decode prog_2_method_11_code 9 = .ok (.bipush (7), 2) := by decide +kernel
theorem d_P_goesOn_11 : decode prog_2_method_11_code 11 = .ok (.if_icmp .ne (7), 3) := by decide +kernel
theorem d_P_goesOn_14 : decode prog_2_method_11_code 14 = .ok (.iconst 0, 1) := by decide +kernel
theorem d_P_goesOn_15 : decode prog_2_method_11_code 15 = .ok (.goto (7), 3) := by decide +kernel
theorem d_P_goesOn_18 : decode prog_2_method_11_code 18 = .ok (.iload_n 1, 1) := by decide +kernel
theorem d_P_goesOn_19 : decode prog_2_method_11_code 19 = .ok (.invokestatic 159, 3) := by decide +kernel
theorem d_P_goesOn_22 : decode prog_2_method_11_code 22 = .ok (.istore_n 2, 1) := by decide +kernel
theorem d_P_goesOn_23 : decode prog_2_method_11_code 23 = .ok (.iload_n 2, 1) := by decide +kernel
theorem d_P_goesOn_24 : decode prog_2_method_11_code 24 = .ok (.iconst (-1), 1) := by decide +kernel
theorem d_P_goesOn_25 : decode prog_2_method_11_code 25 = .ok (.if_icmp .eq (9), 3) := by decide +kernel
theorem d_P_goesOn_28 : decode prog_2_method_11_code 28 = .ok (.iload_n 2, 1) := by decide +kernel
theorem d_P_goesOn_29 : decode prog_2_method_11_code 29 = .ok (.bipush (6), 2) := by decide +kernel
theorem d_P_goesOn_31 : decode prog_2_method_11_code 31 = .ok (.if_icmp .ne (5), 3) := by decide +kernel
theorem d_P_goesOn_34 : decode prog_2_method_11_code 34 = .ok (.iconst 0, 1) := by decide +kernel
theorem d_P_goesOn_35 : decode prog_2_method_11_code 35 = .ok (.ireturn, 1) := by decide +kernel
theorem d_P_goesOn_36 : decode prog_2_method_11_code 36 = .ok (.aload_n 0, 1) := by decide +kernel
theorem d_P_goesOn_37 : decode prog_2_method_11_code 37 = .ok (.iload_n 2, 1) := by decide +kernel
theorem d_P_goesOn_38 : decode prog_2_method_11_code 38 = .ok (.invokestatic 162, 3) := by decide +kernel
theorem d_P_goesOn_41 : decode prog_2_method_11_code 41 = .ok (.invokevirtual 165, 3) := by decide +kernel
theorem d_P_goesOn_44 : decode prog_2_method_11_code 44 = .ok (.aload_n 0, 1) := by decide +kernel
theorem d_P_goesOn_45 : decode prog_2_method_11_code 45 = .ok (.getfield 42, 3) := by decide +kernel
theorem d_P_goesOn_48 : decode prog_2_method_11_code 48 = .ok (.ifCond .eq (5), 3) := by decide +kernel
theorem d_P_goesOn_51 : decode prog_2_method_11_code 51 = .ok (.iconst 1, 1) := by decide +kernel
theorem d_P_goesOn_52 : decode prog_2_method_11_code 52 = .ok (.ireturn, 1) := by decide +kernel
theorem d_P_goesOn_53 : decode prog_2_method_11_code 53 = .ok (.iload_n 2, 1) := by decide +kernel
theorem d_P_goesOn_54 : decode prog_2_method_11_code 54 = .ok (.iconst 3, 1) := by decide +kernel
theorem d_P_goesOn_55 : decode prog_2_method_11_code 55 = .ok (.if_icmp .ne (16), 3) := by decide +kernel
theorem d_P_goesOn_58 : decode prog_2_method_11_code 58 = .ok (.aload_n 0, 1) := by decide +kernel
theorem d_P_goesOn_59 : decode prog_2_method_11_code 59 = .ok (.getfield 12, 3) := by decide +kernel
theorem d_P_goesOn_62 : decode prog_2_method_11_code 62 = .ok (.invokevirtual 169, 3) := by decide +kernel
theorem d_P_goesOn_65 : decode prog_2_method_11_code 65 = .ok (.iconst 3, 1) := by decide +kernel
theorem d_P_goesOn_66 : decode prog_2_method_11_code 66 = .ok (.if_icmp .ne (5), 3) := by decide +kernel
theorem d_P_goesOn_69 : decode prog_2_method_11_code 69 = .ok (.iconst 0, 1) := by decide +kernel
theorem d_P_goesOn_70 : decode prog_2_method_11_code 70 = .ok (.ireturn, 1) := by decide +kernel
theorem d_P_goesOn_71 : decode prog_2_method_11_code 71 = .ok (.iload_n 1, 1) := by decide +kernel
theorem d_P_goesOn_72 : decode prog_2_method_11_code 72 = .ok (.bipush (7), 2) := by decide +kernel
theorem d_P_goesOn_74 : decode prog_2_method_11_code 74 = .ok (.if_icmp .ne (13), 3) := by decide +kernel
theorem d_P_goesOn_77 : decode prog_2_method_11_code 77 = .ok (.aload_n 0, 1) := by decide +kernel
theorem d_P_goesOn_78 : decode prog_2_method_11_code 78 = .ok (.bipush (7), 2) := by decide +kernel
theorem d_P_goesOn_80 : decode prog_2_method_11_code 80 = .ok (.iconst 0, 1) := by decide +kernel
theorem d_P_goesOn_81 : decode prog_2_method_11_code 81 = .ok (.invokevirtual 110, 3) := by decide +kernel
theorem d_P_goesOn_84 : decode prog_2_method_11_code 84 = .ok (.goto (23), 3) := by decide +kernel
theorem d_P_goesOn_87 : decode prog_2_method_11_code 87 = .ok (.aload_n 0, 1) := by decide +kernel
theorem d_P_goesOn_88 : decode prog_2_method_11_code 88 = .ok (.getfield 12, 3) := by decide +kernel
theorem d_P_goesOn_91 : decode prog_2_method_11_code 91 = .ok (.iload_n 1, 1) := by decide +kernel
theorem d_P_goesOn_92 : decode prog_2_method_11_code 92 = .ok (.aload_n 0, 1) := by decide +kernel
theorem d_P_goesOn_93 : decode prog_2_method_11_code 93 = .ok (.getfield 54, 3) := by decide +kernel
theorem d_P_goesOn_96 : decode prog_2_method_11_code 96 = .ok (.getfield 100, 3) := by decide +kernel
theorem d_P_goesOn_99 : decode prog_2_method_11_code 99 = .ok (.invokevirtual 133, 3) := by decide +kernel
theorem d_P_goesOn_102 : decode prog_2_method_11_code 102 = .ok (.aload_n 0, 1) := by decide +kernel
theorem d_P_goesOn_103 : decode prog_2_method_11_code 103 = .ok (.iconst 0, 1) := by decide +kernel
theorem d_P_goesOn_104 : decode prog_2_method_11_code 104 = .ok (.putfield 39, 3) := by decide +kernel
theorem d_P_goesOn_107 : decode prog_2_method_11_code 107 = .ok (.iconst 1, 1) := by decide +kernel
theorem d_P_goesOn_108 : decode prog_2_method_11_code 108 = .ok (.ireturn, 1) := by decide +kernel
def b_P_goesOn_34 (post : Int32 → zH → Prop) (h : zH) : Prop := post 0 h
def b_P_goesOn_107 (post : Int32 → zH → Prop) (h : zH) : Prop := post 1 h
def b_P_goesOn_71 (post : Int32 → zH → Prop) (l1 : Int32) (h : zH) : Prop := ((¬ l1 = 7 → wp_G_push (l1) ((h.1 30 3)) h (fun (h2 : zH) => (∀ h3 : zH, h3 = zi h2 29 9 0 → b_P_goesOn_107 post  h3))) ∧ (l1 = 7 → wp_P_nest (7) (0) h (fun (h5 : zH) => b_P_goesOn_107 post  h5)))
def b_P_goesOn_22 (post : Int32 → zH → Prop) (l1 : Int32) (s0 : Int32) (h : zH) : Prop := ((s0 = (-1) → b_P_goesOn_34 post  h) ∧ (¬ s0 = (-1) → ((¬ s0 = 6 → wp_P_leastSettledBy (s0) h (fun (r6 : Int32) (h7 : zH) => wp_P_settle (r6) h7 (fun (h9 : zH) => (((h9.1 29 10) = 0 → ((¬ s0 = 3 → b_P_goesOn_71 post (l1) h9) ∧ (s0 = 3 → wp_G_topStrength  h9 (fun (r10 : Int32) (h11 : zH) => ((¬ r10 = 3 → b_P_goesOn_71 post (l1) h11) ∧ (r10 = 3 → post 0 h11)))))) ∧ (¬ (h9.1 29 10) = 0 → post 1 h9))))) ∧ (s0 = 6 → b_P_goesOn_34 post  h))))
def wp_P_goesOn (h : zH) (post : Int32 → zH → Prop) : Prop := ((¬ (h.1 30 2) = 7 → wp_R_strengthOf ((h.1 30 2)) h (fun (r12 : Int32) (h13 : zH) => b_P_goesOn_22 post ((h.1 30 2)) (r12) h13)) ∧ ((h.1 30 2) = 7 → b_P_goesOn_22 post ((h.1 30 2)) (0) h))
set_option maxRecDepth 100000 in
set_option maxHeartbeats 4000000 in
theorem w_P_goesOn_34 {l : Launch} {E : zE} {G : (Nat → Prop) → State → Prop} {p : Program} {e : Env} {s : State} {m : MethodId} {args : Array Value} {below : List Frame} {meth : Method} {c : Code} {A : Nat → Prop} {post : Int32 → zH → Prop} (hG : xGG E G) (C : zCx p s m args meth c E G A 5 121 prog_2_method_11_code 3 cn_P) (hr : meth.sig.returnType = (some .boolean))  (h : zH) (hw : b_P_goesOn_34 post  h) : zGo p l e s m args below meth c E A 5 121 3 (zPi post) h 34 [none, none, none] [] := by
  unfold b_P_goesOn_34 at hw
  refine z_iconst C (v := 0) d_P_goesOn_34 (by decide) ?_
  exact z_zret C hr rfl d_P_goesOn_35 hw
set_option maxRecDepth 100000 in
set_option maxHeartbeats 4000000 in
theorem w_P_goesOn_107 {l : Launch} {E : zE} {G : (Nat → Prop) → State → Prop} {p : Program} {e : Env} {s : State} {m : MethodId} {args : Array Value} {below : List Frame} {meth : Method} {c : Code} {A : Nat → Prop} {post : Int32 → zH → Prop} (hG : xGG E G) (C : zCx p s m args meth c E G A 5 121 prog_2_method_11_code 3 cn_P) (hr : meth.sig.returnType = (some .boolean))  (h : zH) (hw : b_P_goesOn_107 post  h) : zGo p l e s m args below meth c E A 5 121 3 (zPi post) h 107 [none, none, none] [] := by
  unfold b_P_goesOn_107 at hw
  refine z_iconst C (v := 1) d_P_goesOn_107 (by decide) ?_
  exact z_zret C hr rfl d_P_goesOn_108 hw
set_option maxRecDepth 100000 in
set_option maxHeartbeats 4000000 in
theorem w_P_goesOn_71 {l : Launch} {E : zE} {G : (Nat → Prop) → State → Prop} {p : Program} {e : Env} {s : State} {m : MethodId} {args : Array Value} {below : List Frame} {meth : Method} {c : Code} {A : Nat → Prop} {post : Int32 → zH → Prop} (hG : xGG E G) (C : zCx p s m args meth c E G A 5 121 prog_2_method_11_code 3 cn_P) (hr : meth.sig.returnType = (some .boolean))  (l1 : Int32) (h : zH) (hw : b_P_goesOn_71 post l1 h) : zGo p l e s m args below meth c E A 5 121 3 (zPi post) h 71 [some (.ref (E.2.2.1 29)), some (.int l1), none] [] := by
  unfold b_P_goesOn_71 at hw
  refine z_iload_n C (i := 1) d_P_goesOn_71 rfl rfl ?_
  refine z_bipush C (v := 7) d_P_goesOn_72 (by decide) ?_
  refine z_icmp_ne C (tgt := 87) d_P_goesOn_74 (by decide) (fun q => ?_) (fun q => ?_)
  · replace hw := hw.1 q
    refine z_aload_n C (i := 0) d_P_goesOn_87 rfl rfl ?_
    refine z_getS C (ci := 4) (j := 2) (F := cf_P) (by decide) rfl rfl in_P (by decide) fl_P_12 rfl d_P_goesOn_88 ?_
    refine z_iload_n C (i := 1) d_P_goesOn_91 rfl rfl ?_
    refine z_aload_n C (i := 0) d_P_goesOn_92 rfl rfl ?_
    refine z_getS C (ci := 4) (j := 1) (F := cf_P) (by decide) rfl rfl in_P (by decide) fl_P_54 rfl d_P_goesOn_93 ?_
    refine z_getIN C (ci := 5) (j := 3) (F := cf_K) (by decide) rfl rfl in_K (by decide) fn_P_100 rfl d_P_goesOn_96 ?_
    refine z_callVNv ⟨xN_ok, hG.1⟩ zT_good C (t_G_push hG hw) wn_G_push nl_P_133 (by decide) rfl rfl (by decide) (by decide) pl_G_push rfl rfl (Nat.le_of_ble_eq_true rfl) d_P_goesOn_99 (fun h2 hw => ?_)
    refine z_aload_n C (i := 0) d_P_goesOn_102 rfl rfl ?_
    refine z_iconst C (v := 0) d_P_goesOn_103 (by decide) ?_
    refine z_putI C (ci := 4) (j := 9) (F := cf_P) ct_P (by decide) rfl rfl in_P ty_P nm_P (by decide) fl_P_39 rfl (by decide +kernel) rfl d_P_goesOn_104 (fun h3 eh3 => ?_)
    replace hw := hw h3 eh3
    refine z_le (lv2 := [none, none, none]) (trivial) ?_
    exact w_P_goesOn_107 hG C hr  _ hw
  · replace hw := hw.2 q
    refine z_aload_n C (i := 0) d_P_goesOn_77 rfl rfl ?_
    refine z_bipush C (v := 7) d_P_goesOn_78 (by decide) ?_
    refine z_iconst C (v := 0) d_P_goesOn_80 (by decide) ?_
    refine z_callVv ⟨xN_ok, hG.1⟩ zT_good C (t_P_nest hG hw) ol_P_110 (by decide) rfl rfl (by decide) (by decide) pl_P_nest rfl rfl (Nat.le_of_ble_eq_true rfl) d_P_goesOn_81 (fun h5 hw => ?_)
    refine z_goto C (tgt := 107) d_P_goesOn_84 (by decide) ?_
    refine z_le (lv2 := [none, none, none]) (trivial) ?_
    exact w_P_goesOn_107 hG C hr  _ hw
set_option maxRecDepth 100000 in
set_option maxHeartbeats 4000000 in
theorem w_P_goesOn_22 {l : Launch} {E : zE} {G : (Nat → Prop) → State → Prop} {p : Program} {e : Env} {s : State} {m : MethodId} {args : Array Value} {below : List Frame} {meth : Method} {c : Code} {A : Nat → Prop} {post : Int32 → zH → Prop} (hG : xGG E G) (C : zCx p s m args meth c E G A 5 121 prog_2_method_11_code 3 cn_P) (hr : meth.sig.returnType = (some .boolean))  (l1 : Int32) (s0 : Int32) (h : zH) (hw : b_P_goesOn_22 post l1 s0 h) : zGo p l e s m args below meth c E A 5 121 3 (zPi post) h 22 [some (.ref (E.2.2.1 29)), some (.int l1), none] [.int s0] := by
  unfold b_P_goesOn_22 at hw
  refine z_istore_n C (i := 2) d_P_goesOn_22 rfl (by decide) rfl ?_
  refine z_iload_n C (i := 2) d_P_goesOn_23 rfl rfl ?_
  refine z_iconst C (v := (-1)) d_P_goesOn_24 (by decide) ?_
  refine z_icmp_eq C (tgt := 34) d_P_goesOn_25 (by decide) (fun q => ?_) (fun q => ?_)
  · replace hw := hw.1 q
    refine z_le (lv2 := [none, none, none]) (trivial) ?_
    exact w_P_goesOn_34 hG C hr  _ hw
  · replace hw := hw.2 q
    refine z_iload_n C (i := 2) d_P_goesOn_28 rfl rfl ?_
    refine z_bipush C (v := 6) d_P_goesOn_29 (by decide) ?_
    refine z_icmp_ne C (tgt := 36) d_P_goesOn_31 (by decide) (fun q => ?_) (fun q => ?_)
    · replace hw := hw.1 q
      refine z_aload_n C (i := 0) d_P_goesOn_36 rfl rfl ?_
      refine z_iload_n C (i := 2) d_P_goesOn_37 rfl rfl ?_
      refine z_callSi ⟨xN_ok, hG.1⟩ zT_good C (t_P_leastSettledBy hG hw) ol_P_162 (by decide) (by decide) pl_P_leastSettledBy rfl rfl (Nat.le_of_ble_eq_true rfl) d_P_goesOn_38 (fun r6 h7 hw => ?_)
      refine z_callVv ⟨xN_ok, hG.1⟩ zT_good C (t_P_settle hG hw) ol_P_165 (by decide) rfl rfl (by decide) (by decide) pl_P_settle rfl rfl (Nat.le_of_ble_eq_true rfl) d_P_goesOn_41 (fun h9 hw => ?_)
      refine z_aload_n C (i := 0) d_P_goesOn_44 rfl rfl ?_
      refine z_getI C (ci := 4) (j := 10) (F := cf_P) (by decide) rfl rfl in_P (by decide) fl_P_42 rfl d_P_goesOn_45 ?_
      refine z_if_eq C (tgt := 53) d_P_goesOn_48 (by decide) (fun q => ?_) (fun q => ?_)
      · replace hw := hw.1 q
        refine z_iload_n C (i := 2) d_P_goesOn_53 rfl rfl ?_
        refine z_iconst C (v := 3) d_P_goesOn_54 (by decide) ?_
        refine z_icmp_ne C (tgt := 71) d_P_goesOn_55 (by decide) (fun q => ?_) (fun q => ?_)
        · replace hw := hw.1 q
          refine z_le (lv2 := [some (.ref (E.2.2.1 29)), some (.int l1), none]) (⟨rfl, ⟨rfl, trivial⟩⟩) ?_
          exact w_P_goesOn_71 hG C hr _ _ hw
        · replace hw := hw.2 q
          refine z_aload_n C (i := 0) d_P_goesOn_58 rfl rfl ?_
          refine z_getS C (ci := 4) (j := 2) (F := cf_P) (by decide) rfl rfl in_P (by decide) fl_P_12 rfl d_P_goesOn_59 ?_
          refine z_callVNi ⟨xN_ok, hG.1⟩ zT_good C (t_G_topStrength hG hw) wn_G_topStrength nl_P_169 (by decide) rfl rfl (by decide) (by decide) pl_G_topStrength rfl rfl (Nat.le_of_ble_eq_true rfl) d_P_goesOn_62 (fun r10 h11 hw => ?_)
          refine z_iconst C (v := 3) d_P_goesOn_65 (by decide) ?_
          refine z_icmp_ne C (tgt := 71) d_P_goesOn_66 (by decide) (fun q => ?_) (fun q => ?_)
          · replace hw := hw.1 q
            refine z_le (lv2 := [some (.ref (E.2.2.1 29)), some (.int l1), none]) (⟨rfl, ⟨rfl, trivial⟩⟩) ?_
            exact w_P_goesOn_71 hG C hr _ _ hw
          · replace hw := hw.2 q
            refine z_iconst C (v := 0) d_P_goesOn_69 (by decide) ?_
            exact z_zret C hr rfl d_P_goesOn_70 hw
      · replace hw := hw.2 q
        refine z_iconst C (v := 1) d_P_goesOn_51 (by decide) ?_
        exact z_zret C hr rfl d_P_goesOn_52 hw
    · replace hw := hw.2 q
      refine z_le (lv2 := [none, none, none]) (trivial) ?_
      exact w_P_goesOn_34 hG C hr  _ hw
set_option maxRecDepth 100000 in
set_option maxHeartbeats 4000000 in
theorem t_P_goesOn {l : Launch} {E : zE} {G : (Nat → Prop) → State → Prop} (hG : xGG E G) {h : zH} {post : Int32 → zH → Prop} (hw : wp_P_goesOn  h post) : Ct l xX E xcl xN zT G 5 121 y_P_goesOn prog_2_method_11_code 3 (some .boolean) [.ref (E.2.2.1 29)] h (zPi post) := by
  unfold wp_P_goesOn at hw
  refine Ct.of (by decide) (Nat.le_of_ble_eq_true rfl) ?_
  intro p e s m below meth c A C hr
  refine z_lv (lv2 := [some (.ref (E.2.2.1 29)), none, none]) rfl ?_
  refine z_aload_n C (i := 0) d_P_goesOn_0 rfl rfl ?_
  refine z_getS C (ci := 4) (j := 1) (F := cf_P) (by decide) rfl rfl in_P (by decide) fl_P_54 rfl d_P_goesOn_1 ?_
  refine z_getIN C (ci := 5) (j := 2) (F := cf_K) (by decide) rfl rfl in_K (by decide) fn_P_90 rfl d_P_goesOn_4 ?_
  refine z_istore_n C (i := 1) d_P_goesOn_7 rfl (by decide) rfl ?_
  refine z_iload_n C (i := 1) d_P_goesOn_8 rfl rfl ?_
  refine z_bipush C (v := 7) d_P_goesOn_9 (by decide) ?_
  refine z_icmp_ne C (tgt := 18) d_P_goesOn_11 (by decide) (fun q => ?_) (fun q => ?_)
  · replace hw := hw.1 q
    refine z_iload_n C (i := 1) d_P_goesOn_18 rfl rfl ?_
    refine z_callSNi ⟨xN_ok, hG.1⟩ zT_good C (t_R_strengthOf hG hw) wn_R_strengthOf nl_P_159 (by decide) (by decide) pl_R_strengthOf rfl rfl (Nat.le_of_ble_eq_true rfl) d_P_goesOn_19 (fun r12 h13 hw => ?_)
    refine z_le (lv2 := [some (.ref (E.2.2.1 29)), some (.int (h.1 30 2)), none]) (⟨rfl, ⟨rfl, trivial⟩⟩) ?_
    exact w_P_goesOn_22 hG C hr _ _ _ hw
  · replace hw := hw.2 q
    refine z_iconst C (v := 0) d_P_goesOn_14 (by decide) ?_
    refine z_goto C (tgt := 22) d_P_goesOn_15 (by decide) ?_
    refine z_le (lv2 := [some (.ref (E.2.2.1 29)), some (.int (h.1 30 2)), none]) (⟨rfl, ⟨rfl, trivial⟩⟩) ?_
    exact w_P_goesOn_22 hG C hr _ _ _ hw
