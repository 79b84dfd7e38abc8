theorem d_M_topOp_0 : decode prog_10_method_16_code 0 = .ok (.aload_n 0, 1) := by decide +kernel
theorem d_M_topOp_1 : decode prog_10_method_16_code 1 = .ok (.getfield 128, 3) := by decide +kernel
theorem d_M_topOp_4 : decode prog_10_method_16_code 4 = .ok (.ifCond .ne (7), 3) := by decide +kernel
theorem d_M_topOp_7 : decode prog_10_method_16_code 7 = .ok (.iconst 0, 1) := by decide +kernel
theorem d_M_topOp_8 : decode prog_10_method_16_code 8 = .ok (.goto (14), 3) := by decide +kernel
theorem d_M_topOp_11 : decode prog_10_method_16_code 11 = .ok (.aload_n 0, 1) := by decide +kernel
theorem d_M_topOp_12 : decode prog_10_method_16_code 12 = .ok (.getfield 53, 3) := by decide +kernel
theorem d_M_topOp_15 : decode prog_10_method_16_code 15 = .ok (.aload_n 0, 1) := by decide +kernel
theorem d_M_topOp_16 : decode prog_10_method_16_code 16 = .ok (.getfield 128, 3) := by decide +kernel
theorem d_M_topOp_19 : decode prog_10_method_16_code 19 = .ok (.iconst 1, 1) := by decide +kernel
theorem d_M_topOp_20 : decode prog_10_method_16_code 20 = .ok (.isub, 1) := by decide +kernel
theorem d_M_topOp_21 : decode prog_10_method_16_code 21 = .ok (.iaload, 1) := by decide +kernel
theorem d_M_topOp_22 : decode prog_10_method_16_code 22 = .ok (.ireturn, 1) := by decide +kernel
def b_M_topOp_22 (post : Int32 → zH → Prop) (s0 : Int32) (h : zH) : Prop := post s0 h
def wp_M_topOp (h : zH) (post : Int32 → zH → Prop) : Prop := ((¬ (h.1 39 28) = 0 → (vp_in ((h.1 39 28) - 1) 300 ∧ b_M_topOp_22 post ((h.1 54 (((h.1 39 28) - 1) : Int32).toNatClampNeg)) h)) ∧ ((h.1 39 28) = 0 → b_M_topOp_22 post (0) h))
set_option maxRecDepth 100000 in
set_option maxHeartbeats 4000000 in
theorem w_M_topOp_22 {l : Launch} {E : zE} {G : (Nat → Prop) → State → Prop} {p : Program} {e : Env} {s : State} {m : MethodId} {args : Array Value} {below : List Frame} {meth : Method} {c : Code} {A : Nat → Prop} {post : Int32 → zH → Prop} (hG : xGG E G) (C : zCx p s m args meth c E G A 0 0 prog_10_method_16_code 1 cn_M) (hr : meth.sig.returnType = (some .int))  (s0 : Int32) (h : zH) (hw : b_M_topOp_22 post s0 h) : zGo p l e s m args below meth c E A 0 0 1 (zPi post) h 22 [none] [.int s0] := by
  unfold b_M_topOp_22 at hw
  exact z_iret C hr d_M_topOp_22 hw
set_option maxRecDepth 100000 in
set_option maxHeartbeats 4000000 in
theorem t_M_topOp {l : Launch} {E : zE} {G : (Nat → Prop) → State → Prop} (hG : xGG E G) {h : zH} {post : Int32 → zH → Prop} (hw : wp_M_topOp  h post) : Ct l xX E xcl xN zT G 0 0 y_M_topOp prog_10_method_16_code 1 (some .int) [.ref (E.2.2.1 39)] h (zPi post) := by
  unfold wp_M_topOp at hw
  refine Ct.of (by decide) (Nat.le_of_ble_eq_true rfl) ?_
  intro p e s m below meth c A C hr
  refine z_lv (lv2 := [some (.ref (E.2.2.1 39))]) rfl ?_
  refine z_aload_n C (i := 0) d_M_topOp_0 rfl rfl ?_
  refine z_getI C (ci := 8) (j := 28) (F := cf_M) (by decide) rfl rfl in_M (by decide) fl_M_128 rfl d_M_topOp_1 ?_
  refine z_if_ne C (tgt := 11) d_M_topOp_4 (by decide) (fun q => ?_) (fun q => ?_)
  · replace hw := hw.1 q
    refine z_aload_n C (i := 0) d_M_topOp_11 rfl rfl ?_
    refine z_getS C (ci := 8) (j := 25) (F := cf_M) (by decide) rfl rfl in_M (by decide) fl_M_53 rfl d_M_topOp_12 ?_
    refine z_aload_n C (i := 0) d_M_topOp_15 rfl rfl ?_
    refine z_getI C (ci := 8) (j := 28) (F := cf_M) (by decide) rfl rfl in_M (by decide) fl_M_128 rfl d_M_topOp_16 ?_
    refine z_iconst C (v := 1) d_M_topOp_19 (by decide) ?_
    refine z_isub C d_M_topOp_20 ?_
    refine z_iald C (by decide) rfl hw.1 d_M_topOp_21 ?_
    replace hw := hw.2
    refine z_le (lv2 := [none]) (trivial) ?_
    exact w_M_topOp_22 hG C hr _ _ hw
  · replace hw := hw.2 q
    refine z_iconst C (v := 0) d_M_topOp_7 (by decide) ?_
    refine z_goto C (tgt := 22) d_M_topOp_8 (by decide) ?_
    refine z_le (lv2 := [none]) (trivial) ?_
    exact w_M_topOp_22 hG C hr _ _ hw
theorem d_M_doAll_0 : decode prog_10_method_27_code 0 = .ok (.aload_n 0, 1) := by decide +kernel
theorem d_M_doAll_1 : decode prog_10_method_27_code 1 = .ok (.getfield 118, 3) := by decide +kernel
theorem d_M_doAll_4 : decode prog_10_method_27_code 4 = .ok (.ifCond .ne (56), 3) := by decide +kernel
theorem d_M_doAll_7 : decode prog_10_method_27_code 7 = .ok (.aload_n 0, 1) := by decide +kernel
theorem d_M_doAll_8 : decode prog_10_method_27_code 8 = .ok (.invokevirtual 175, 3) := by decide +kernel
theorem d_M_doAll_11 : decode prog_10_method_27_code 11 = .ok (.invokestatic 157, 3) := by decide +kernel
theorem d_M_doAll_14 : decode prog_10_method_27_code 14 = .ok (.iload_n 1, 1) := by decide +kernel
theorem d_M_doAll_15 : decode prog_10_method_27_code 15 = .ok (.if_icmp .lt (45), 3) := by decide +kernel
theorem d_M_doAll_18 : decode prog_10_method_27_code 18 = .ok (.aload_n 0, 1) := by decide +kernel
theorem d_M_doAll_19 : decode prog_10_method_27_code 19 = .ok (.getfield 128, 3) := by decide +kernel
theorem d_M_doAll_22 : decode prog_10_method_27_code 22 = .ok (.ifCond .le (38), 3) := by decide +kernel
theorem d_M_doAll_25 : decode prog_10_method_27_code 25 = .ok (.aload_n 0, 1) := by decide +kernel
theorem d_M_doAll_26 : decode prog_10_method_27_code 26 = .ok (.dup, 1) := by decide +kernel
theorem d_M_doAll_27 : decode prog_10_method_27_code 27 = .ok (.getfield 128, 3) := by decide +kernel
theorem d_M_doAll_30 : decode prog_10_method_27_code 30 = .ok (.iconst 1, 1) := by decide +kernel
theorem d_M_doAll_31 : decode prog_10_method_27_code 31 = .ok (.isub, 1) := by decide +kernel
theorem d_M_doAll_32 : decode prog_10_method_27_code 32 = .ok (.putfield 128, 3) := by decide +kernel
theorem d_M_doAll_35 : decode prog_10_method_27_code 35 = .ok (.aload_n 0, 1) := by decide +kernel
theorem d_M_doAll_36 : decode prog_10_method_27_code 36 = .ok (.aload_n 0, 1) := by decide +kernel
theorem d_M_doAll_37 : decode prog_10_method_27_code 37 = .ok (.getfield 53, 3) := by decide +kernel
theorem d_M_doAll_40 : decode prog_10_method_27_code 40 = .ok (.aload_n 0, 1) := by decide +kernel
theorem d_M_doAll_41 : decode prog_10_method_27_code 41 = .ok (.getfield 128, 3) := by decide +kernel
theorem d_M_doAll_44 : decode prog_10_method_27_code 44 = .ok (.iaload, 1) := by decide +kernel
theorem d_M_doAll_45 : decode prog_10_method_27_code 45 = .ok (.aload_n 0, 1) := by decide +kernel
theorem d_M_doAll_46 : decode prog_10_method_27_code 46 = .ok (.getfield 56, 3) := by decide +kernel
theorem d_M_doAll_49 : decode prog_10_method_27_code 49 = .ok (.aload_n 0, 1) := by decide +kernel
theorem d_M_doAll_50 : decode prog_10_method_27_code 50 = .ok (.getfield 128, 3) := by decide +kernel
theorem d_M_doAll_53 : decode prog_10_method_27_code 53 = .ok (.iaload, 1) := by decide +kernel
theorem d_M_doAll_54 : decode prog_10_method_27_code 54 = .ok (.invokevirtual 178, 3) := by decide +kernel
theorem d_M_doAll_57 : decode prog_10_method_27_code 57 = .ok (.goto (-57), 3) := by decide +kernel
theorem d_M_doAll_60 : decode prog_10_method_27_code 60 = .ok (.return_, 1) := by decide +kernel
def b_M_doAll_60 (post : zH → Prop) (h : zH) : Prop := post h
def b_M_doAll_0 (post : zH → Prop) : Nat → Int32 → zH → Prop
  | 0, _, _ => False
  | n + 1, l1, h => (fun rc : Int32 → zH → Prop => ((¬ (h.1 39 24) = 0 → b_M_doAll_60 post  h) ∧ ((h.1 39 24) = 0 → wp_M_topOp  h (fun (r1 : Int32) (h2 : zH) => wp_M_rank (r1) h2 (fun (r3 : Int32) (h4 : zH) => ((r3 < l1 → b_M_doAll_60 post  h4) ∧ (¬ r3 < l1 → (((h4.1 39 28) ≤ 0 → b_M_doAll_60 post  h4) ∧ (¬ (h4.1 39 28) ≤ 0 → (∀ h5 : zH, h5 = zi h4 39 28 ((h4.1 39 28) - 1) → (vp_in (h5.1 39 28) 300 ∧ (vp_in (h5.1 39 28) 300 ∧ wp_M_doTwo ((h5.1 54 ((h5.1 39 28) : Int32).toNatClampNeg)) ((h5.1 55 ((h5.1 39 28) : Int32).toNatClampNeg)) h5 (fun (h7 : zH) => rc (l1) h7))))))))))))) (b_M_doAll_0 post n)
def wp_M_doAll (l1 : Int32) (h : zH) (post : zH → Prop) : Prop := (∃ n : Nat, b_M_doAll_0 post n (l1) h)
set_option maxRecDepth 100000 in
set_option maxHeartbeats 4000000 in
theorem w_M_doAll_60 {l : Launch} {E : zE} {G : (Nat → Prop) → State → Prop} {p : Program} {e : Env} {s : State} {m : MethodId} {args : Array Value} {below : List Frame} {meth : Method} {c : Code} {A : Nat → Prop} {post : zH → Prop} (hG : xGG E G) (C : zCx p s m args meth c E G A 3 90 prog_10_method_27_code 2 cn_M) (hr : meth.sig.returnType = none)  (h : zH) (hw : b_M_doAll_60 post  h) : zGo p l e s m args below meth c E A 3 90 2 (zPv post) h 60 [none, none] [] := by
  unfold b_M_doAll_60 at hw
  exact z_vret C hr d_M_doAll_60 hw
set_option maxRecDepth 100000 in
set_option maxHeartbeats 4000000 in
theorem w_M_doAll_0 {l : Launch} {E : zE} {G : (Nat → Prop) → State → Prop} {p : Program} {e : Env} {s : State} {m : MethodId} {args : Array Value} {below : List Frame} {meth : Method} {c : Code} {A : Nat → Prop} {post : zH → Prop} (hG : xGG E G) (C : zCx p s m args meth c E G A 3 90 prog_10_method_27_code 2 cn_M) (hr : meth.sig.returnType = none) : ∀ (n : Nat) (l1 : Int32) (h : zH), b_M_doAll_0 post n l1 h → zGo p l e s m args below meth c E A 3 90 2 (zPv post) h 0 [some (.ref (E.2.2.1 39)), some (.int l1)] [] := by
  intro n
  induction n with
  | zero => intro l1 h hw; exact False.elim hw
  | succ n hrc =>
    intro l1 h hw
    unfold b_M_doAll_0 at hw
    refine z_aload_n C (i := 0) d_M_doAll_0 rfl rfl ?_
    refine z_getI C (ci := 8) (j := 24) (F := cf_M) (by decide) rfl rfl in_M (by decide) fl_M_118 rfl d_M_doAll_1 ?_
    refine z_if_ne C (tgt := 60) d_M_doAll_4 (by decide) (fun q => ?_) (fun q => ?_)
    · replace hw := hw.1 q
      refine z_le (lv2 := [none, none]) (trivial) ?_
      exact w_M_doAll_60 hG C hr  _ hw
    · replace hw := hw.2 q
      refine z_aload_n C (i := 0) d_M_doAll_7 rfl rfl ?_
      refine z_callVi ⟨xN_ok, hG.1⟩ zT_good C (t_M_topOp hG hw) ol_M_175 (by decide) rfl rfl (by decide) (by decide) pl_M_topOp rfl rfl (Nat.le_of_ble_eq_true rfl) d_M_doAll_8 (fun r1 h2 hw => ?_)
      refine z_callSi ⟨xN_ok, hG.1⟩ zT_good C (t_M_rank hG hw) ol_M_157 (by decide) (by decide) pl_M_rank rfl rfl (Nat.le_of_ble_eq_true rfl) d_M_doAll_11 (fun r3 h4 hw => ?_)
      refine z_iload_n C (i := 1) d_M_doAll_14 rfl rfl ?_
      refine z_icmp_lt C (tgt := 60) d_M_doAll_15 (by decide) (fun q => ?_) (fun q => ?_)
      · replace hw := hw.1 q
        refine z_le (lv2 := [none, none]) (trivial) ?_
        exact w_M_doAll_60 hG C hr  _ hw
      · replace hw := hw.2 q
        refine z_aload_n C (i := 0) d_M_doAll_18 rfl rfl ?_
        refine z_getI C (ci := 8) (j := 28) (F := cf_M) (by decide) rfl rfl in_M (by decide) fl_M_128 rfl d_M_doAll_19 ?_
        refine z_if_le C (tgt := 60) d_M_doAll_22 (by decide) (fun q => ?_) (fun q => ?_)
        · replace hw := hw.1 q
          refine z_le (lv2 := [none, none]) (trivial) ?_
          exact w_M_doAll_60 hG C hr  _ hw
        · replace hw := hw.2 q
          refine z_aload_n C (i := 0) d_M_doAll_25 rfl rfl ?_
          refine z_dup C d_M_doAll_26 rfl ?_
          refine z_getI C (ci := 8) (j := 28) (F := cf_M) (by decide) rfl rfl in_M (by decide) fl_M_128 rfl d_M_doAll_27 ?_
          refine z_iconst C (v := 1) d_M_doAll_30 (by decide) ?_
          refine z_isub C d_M_doAll_31 ?_
          refine z_putI C (ci := 8) (j := 28) (F := cf_M) ct_M (by decide) rfl rfl in_M ty_M nm_M (by decide) fl_M_128 rfl (by decide +kernel) rfl d_M_doAll_32 (fun h5 eh5 => ?_)
          replace hw := hw h5 eh5
          refine z_aload_n C (i := 0) d_M_doAll_35 rfl rfl ?_
          refine z_aload_n C (i := 0) d_M_doAll_36 rfl rfl ?_
          refine z_getS C (ci := 8) (j := 25) (F := cf_M) (by decide) rfl rfl in_M (by decide) fl_M_53 rfl d_M_doAll_37 ?_
          refine z_aload_n C (i := 0) d_M_doAll_40 rfl rfl ?_
          refine z_getI C (ci := 8) (j := 28) (F := cf_M) (by decide) rfl rfl in_M (by decide) fl_M_128 rfl d_M_doAll_41 ?_
          refine z_iald C (by decide) rfl hw.1 d_M_doAll_44 ?_
          replace hw := hw.2
          refine z_aload_n C (i := 0) d_M_doAll_45 rfl rfl ?_
          refine z_getS C (ci := 8) (j := 26) (F := cf_M) (by decide) rfl rfl in_M (by decide) fl_M_56 rfl d_M_doAll_46 ?_
          refine z_aload_n C (i := 0) d_M_doAll_49 rfl rfl ?_
          refine z_getI C (ci := 8) (j := 28) (F := cf_M) (by decide) rfl rfl in_M (by decide) fl_M_128 rfl d_M_doAll_50 ?_
          refine z_iald C (by decide) rfl hw.1 d_M_doAll_53 ?_
          replace hw := hw.2
          refine z_callVv ⟨xN_ok, hG.1⟩ zT_good C (t_M_doTwo hG hw) ol_M_178 (by decide) rfl rfl (by decide) (by decide) pl_M_doTwo rfl rfl (Nat.le_of_ble_eq_true rfl) d_M_doAll_54 (fun h7 hw => ?_)
          refine z_goto C (tgt := 0) d_M_doAll_57 (by decide) ?_
          refine z_le (lv2 := [some (.ref (E.2.2.1 39)), some (.int l1)]) (⟨rfl, ⟨rfl, trivial⟩⟩) ?_
          exact hrc _ _ hw
set_option maxRecDepth 100000 in
set_option maxHeartbeats 4000000 in
theorem t_M_doAll {l : Launch} {E : zE} {G : (Nat → Prop) → State → Prop} (hG : xGG E G) {l1 : Int32} {h : zH} {post : zH → Prop} (hw : wp_M_doAll l1 h post) : Ct l xX E xcl xN zT G 3 90 y_M_doAll prog_10_method_27_code 2 none [.ref (E.2.2.1 39), .int l1] h (zPv post) := by
  unfold wp_M_doAll at hw
  refine Ct.of (by decide) (Nat.le_of_ble_eq_true rfl) ?_
  intro p e s m below meth c A C hr
  refine z_lv (lv2 := [some (.ref (E.2.2.1 39)), some (.int l1)]) rfl ?_
  refine z_le (lv2 := [some (.ref (E.2.2.1 39)), some (.int l1)]) (⟨rfl, ⟨rfl, trivial⟩⟩) ?_
  obtain ⟨n, hw⟩ := hw
  exact w_M_doAll_0 hG C hr n _ _ hw
theorem d_M_doChoice_0 : decode prog_10_method_25_code 0 = .ok (.aload_n 0, 1) := by decide +kernel
theorem d_M_doChoice_1 : decode prog_10_method_25_code 1 = .ok (.invokevirtual 153, 3) := by decide +kernel
theorem d_M_doChoice_4 : decode prog_10_method_25_code 4 = .ok (.istore_n 2, 1) := by decide +kernel
theorem d_M_doChoice_5 : decode prog_10_method_25_code 5 = .ok (.aload_n 0, 1) := by decide +kernel
theorem d_M_doChoice_6 : decode prog_10_method_25_code 6 = .ok (.invokevirtual 153, 3) := by decide +kernel
theorem d_M_doChoice_9 : decode prog_10_method_25_code 9 = .ok (.istore_n 3, 1) := by decide +kernel
theorem d_M_doChoice_10 : decode prog_10_method_25_code 10 = .ok (.aload_n 0, 1) := by decide +kernel
theorem d_M_doChoice_11 : decode prog_10_method_25_code 11 = .ok (.invokevirtual 153, 3) := by decide +kernel
theorem d_M_doChoice_14 : decode prog_10_method_25_code 14 = .ok (.istore 4, 2) := by decide +kernel
theorem d_M_doChoice_16 : decode prog_10_method_25_code 16 = .ok (.aload_n 0, 1) := by decide +kernel
theorem d_M_doChoice_17 : decode prog_10_method_25_code 17 = .ok (.getfield 28, 3) := by decide +kernel
theorem d_M_doChoice_20 : decode prog_10_method_25_code 20 = .ok (.iload 4, 2) := by decide +kernel
theorem d_M_doChoice_22 : decode prog_10_method_25_code 22 = .ok (.iaload, 1) := by decide +kernel
theorem d_M_doChoice_23 : decode prog_10_method_25_code 23 = .ok (.iconst 1, 1) := by decide +kernel
theorem d_M_doChoice_24 : decode prog_10_method_25_code 24 = .ok (.if_icmp .ne (18), 3) := by decide +kernel
theorem d_M_doChoice_27 : decode prog_10_method_25_code 27 = .ok (.aload_n 0, 1) := by decide +kernel
theorem d_M_doChoice_28 : decode prog_10_method_25_code 28 = .ok (.getfield 28, 3) := by decide +kernel
theorem d_M_doChoice_31 : decode prog_10_method_25_code 31 = .ok (.iload_n 3, 1) := by decide +kernel
theorem d_M_doChoice_32 : decode prog_10_method_25_code 32 = .ok (.iaload, 1) := by decide +kernel
theorem d_M_doChoice_33 : decode prog_10_method_25_code 33 = .ok (.aload_n 0, 1) := by decide +kernel
theorem d_M_doChoice_34 : decode prog_10_method_25_code 34 = .ok (.getfield 28, 3) := by decide +kernel
theorem d_M_doChoice_37 : decode prog_10_method_25_code 37 = .ok (.iload_n 2, 1) := by decide +kernel
theorem d_M_doChoice_38 : decode prog_10_method_25_code 38 = .ok (.iaload, 1) := by decide +kernel
theorem d_M_doChoice_39 : decode prog_10_method_25_code 39 = .ok (.if_icmp .eq (10), 3) := by decide +kernel
theorem d_M_doChoice_42 : decode prog_10_method_25_code 42 = .ok (.aload_n 0, 1) := by decide +kernel
theorem d_M_doChoice_43 : decode prog_10_method_25_code 43 = .ok (.iconst 2, 1) := by decide +kernel
theorem d_M_doChoice_44 : decode prog_10_method_25_code 44 = .ok (.iload_n 1, 1) := by decide +kernel
theorem d_M_doChoice_45 : decode prog_10_method_25_code 45 = .ok (.invokevirtual 124, 3) := by decide +kernel
theorem d_M_doChoice_48 : decode prog_10_method_25_code 48 = .ok (.return_, 1) := by decide +kernel
theorem d_M_doChoice_49 : decode prog_10_method_25_code 49 = .ok (.aload_n 0, 1) := by decide +kernel
theorem d_M_doChoice_50 : decode prog_10_method_25_code 50 = .ok (.bipush (63), 2) := by decide +kernel
theorem d_M_doChoice_52 : decode prog_10_method_25_code 52 = .ok (.iload_n 1, 1) := by decide +kernel
theorem d_M_doChoice_53 : decode prog_10_method_25_code 53 = .ok (.aload_n 0, 1) := by decide +kernel
theorem d_M_doChoice_54 : decode prog_10_method_25_code 54 = .ok (.getfield 28, 3) := by decide +kernel
theorem d_M_doChoice_57 : decode prog_10_method_25_code 57 = .ok (.iload_n 3, 1) := by decide +kernel
theorem d_M_doChoice_58 : decode prog_10_method_25_code 58 = .ok (.iaload, 1) := by decide +kernel
theorem d_M_doChoice_59 : decode prog_10_method_25_code 59 = .ok (.aload_n 0, 1) := by decide +kernel
theorem d_M_doChoice_60 : decode prog_10_method_25_code 60 = .ok (.getfield 31, 3) := by decide +kernel
theorem d_M_doChoice_63 : decode prog_10_method_25_code 63 = .ok (.iload_n 3, 1) := by decide +kernel
theorem d_M_doChoice_64 : decode prog_10_method_25_code 64 = .ok (.laload, 1) := by decide +kernel
theorem d_M_doChoice_65 : decode prog_10_method_25_code 65 = .ok (.aload_n 0, 1) := by decide +kernel
theorem d_M_doChoice_66 : decode prog_10_method_25_code 66 = .ok (.getfield 31, 3) := by decide +kernel
theorem d_M_doChoice_69 : decode prog_10_method_25_code 69 = .ok (.iload_n 2, 1) := by decide +kernel
theorem d_M_doChoice_70 : decode prog_10_method_25_code 70 = .ok (.laload, 1) := by decide +kernel
theorem d_M_doChoice_71 : decode prog_10_method_25_code 71 = .ok (.invokestatic 140, 3) := by decide +kernel
theorem d_M_doChoice_74 : decode prog_10_method_25_code 74 = .ok (.aload_n 0, 1) := by decide +kernel
theorem d_M_doChoice_75 : decode prog_10_method_25_code 75 = .ok (.getfield 35, 3) := by decide +kernel
theorem d_M_doChoice_78 : decode prog_10_method_25_code 78 = .ok (.iload_n 3, 1) := by decide +kernel
theorem d_M_doChoice_79 : decode prog_10_method_25_code 79 = .ok (.laload, 1) := by decide +kernel
theorem d_M_doChoice_80 : decode prog_10_method_25_code 80 = .ok (.aload_n 0, 1) := by decide +kernel
theorem d_M_doChoice_81 : decode prog_10_method_25_code 81 = .ok (.getfield 35, 3) := by decide +kernel
theorem d_M_doChoice_84 : decode prog_10_method_25_code 84 = .ok (.iload_n 2, 1) := by decide +kernel
theorem d_M_doChoice_85 : decode prog_10_method_25_code 85 = .ok (.laload, 1) := by decide +kernel
theorem d_M_doChoice_86 : decode prog_10_method_25_code 86 = .ok (.invokestatic 147, 3) := by decide +kernel
theorem d_M_doChoice_89 : decode prog_10_method_25_code 89 = .ok (.invokevirtual 167, 3) := by decide +kernel
theorem d_M_doChoice_92 : decode prog_10_method_25_code 92 = .ok (.istore 5, 2) := by decide +kernel
theorem d_M_doChoice_94 : decode prog_10_method_25_code 94 = .ok (.aload_n 0, 1) := by decide +kernel
theorem d_M_doChoice_95 : decode prog_10_method_25_code 95 = .ok (.getfield 38, 3) := by decide +kernel
theorem d_M_doChoice_98 : decode prog_10_method_25_code 98 = .ok (.iload 5, 2) := by decide +kernel
theorem d_M_doChoice_100 : decode prog_10_method_25_code 100 = .ok (.iload 4, 2) := by decide +kernel
theorem d_M_doChoice_102 : decode prog_10_method_25_code 102 = .ok (.iastore, 1) := by decide +kernel
theorem d_M_doChoice_103 : decode prog_10_method_25_code 103 = .ok (.aload_n 0, 1) := by decide +kernel
theorem d_M_doChoice_104 : decode prog_10_method_25_code 104 = .ok (.getfield 41, 3) := by decide +kernel
theorem d_M_doChoice_107 : decode prog_10_method_25_code 107 = .ok (.iload 5, 2) := by decide +kernel
theorem d_M_doChoice_109 : decode prog_10_method_25_code 109 = .ok (.iload_n 3, 1) := by decide +kernel
theorem d_M_doChoice_110 : decode prog_10_method_25_code 110 = .ok (.iastore, 1) := by decide +kernel
theorem d_M_doChoice_111 : decode prog_10_method_25_code 111 = .ok (.aload_n 0, 1) := by decide +kernel
theorem d_M_doChoice_112 : decode prog_10_method_25_code 112 = .ok (.getfield 44, 3) := by decide +kernel
theorem d_M_doChoice_115 : decode prog_10_method_25_code 115 = .ok (.iload 5, 2) := by decide +kernel
theorem d_M_doChoice_117 : decode prog_10_method_25_code 117 = .ok (.iload_n 2, 1) := by decide +kernel
theorem d_M_doChoice_118 : decode prog_10_method_25_code 118 = .ok (.iastore, 1) := by decide +kernel
theorem d_M_doChoice_119 : decode prog_10_method_25_code 119 = .ok (.aload_n 0, 1) := by decide +kernel
theorem d_M_doChoice_120 : decode prog_10_method_25_code 120 = .ok (.getfield 47, 3) := by decide +kernel
theorem d_M_doChoice_123 : decode prog_10_method_25_code 123 = .ok (.iload 5, 2) := by decide +kernel
theorem d_M_doChoice_125 : decode prog_10_method_25_code 125 = .ok (.iconst 1, 1) := by decide +kernel
theorem d_M_doChoice_126 : decode prog_10_method_25_code 126 = .ok (.aload_n 0, 1) := by decide +kernel
theorem d_M_doChoice_127 : decode prog_10_method_25_code 127 = .ok (.getfield 47, 3) := by decide +kernel
theorem d_M_doChoice_130 : decode prog_10_method_25_code 130 = .ok (.iload 4, 2) := by decide +kernel
theorem d_M_doChoice_132 : decode prog_10_method_25_code 132 = .ok (.iaload, 1) := by decide +kernel
theorem d_M_doChoice_133 : decode prog_10_method_25_code 133 = .ok (.i2l, 1) := by decide +kernel
theorem d_M_doChoice_134 : decode prog_10_method_25_code 134 = .ok (.aload_n 0, 1) := by decide +kernel
theorem d_M_doChoice_135 : decode prog_10_method_25_code 135 = .ok (.getfield 47, 3) := by decide +kernel
theorem d_M_doChoice_138 : decode prog_10_method_25_code 138 = .ok (.iload_n 3, 1) := by decide +kernel
theorem d_M_doChoice_139 : decode prog_10_method_25_code 139 = .ok (.iaload, 1) := by decide +kernel
theorem d_M_doChoice_140 : decode prog_10_method_25_code 140 = .ok (.i2l, 1) := by decide +kernel
theorem d_M_doChoice_141 : decode prog_10_method_25_code 141 = .ok (.aload_n 0, 1) := by decide +kernel
theorem d_M_doChoice_142 : decode prog_10_method_25_code 142 = .ok (.getfield 47, 3) := by decide +kernel
theorem d_M_doChoice_145 : decode prog_10_method_25_code 145 = .ok (.iload_n 2, 1) := by decide +kernel
theorem d_M_doChoice_146 : decode prog_10_method_25_code 146 = .ok (.iaload, 1) := by decide +kernel
theorem d_M_doChoice_147 : decode prog_10_method_25_code 147 = .ok (.i2l, 1) := by decide +kernel
theorem d_M_doChoice_148 : decode prog_10_method_25_code 148 = .ok (.invokestatic 147, 3) := by decide +kernel
theorem d_M_doChoice_151 : decode prog_10_method_25_code 151 = .ok (.invokestatic 147, 3) := by decide +kernel
theorem d_M_doChoice_154 : decode prog_10_method_25_code 154 = .ok (.l2i, 1) := by decide +kernel
theorem d_M_doChoice_155 : decode prog_10_method_25_code 155 = .ok (.iadd, 1) := by decide +kernel
theorem d_M_doChoice_156 : decode prog_10_method_25_code 156 = .ok (.iastore, 1) := by decide +kernel
theorem d_M_doChoice_157 : decode prog_10_method_25_code 157 = .ok (.aload_n 0, 1) := by decide +kernel
theorem d_M_doChoice_158 : decode prog_10_method_25_code 158 = .ok (.iload 5, 2) := by decide +kernel
theorem d_M_doChoice_160 : decode prog_10_method_25_code 160 = .ok (.invokevirtual 171, 3) := by decide +kernel
theorem d_M_doChoice_163 : decode prog_10_method_25_code 163 = .ok (.return_, 1) := by decide +kernel
def b_M_doChoice_42 (post : zH → Prop) (l1 : Int32) (h : zH) : Prop := wp_M_bad (2) (l1) h (fun (h2 : zH) => post h2)
def wp_M_doChoice (l1 : Int32) (h : zH) (post : zH → Prop) : Prop := wp_M_pop  h (fun (r3 : Int32) (h4 : zH) => wp_M_pop  h4 (fun (r5 : Int32) (h6 : zH) => wp_M_pop  h6 (fun (r7 : Int32) (h8 : zH) => (vp_in r7 200 ∧ ((¬ (h8.1 46 (r7 : Int32).toNatClampNeg) = 1 → b_M_doChoice_42 post (l1) h8) ∧ ((h8.1 46 (r7 : Int32).toNatClampNeg) = 1 → (vp_in r5 200 ∧ (vp_in r3 200 ∧ (((h8.1 46 (r5 : Int32).toNatClampNeg) = (h8.1 46 (r3 : Int32).toNatClampNeg) → (vp_in r5 200 ∧ (vp_in r5 200 ∧ (vp_in r3 200 ∧ wp_M_lesser ((h8.2.1 47 (r5 : Int32).toNatClampNeg)) ((h8.2.1 47 (r3 : Int32).toNatClampNeg)) h8 (fun (r9 : Int64) (h10 : zH) => (vp_in r5 200 ∧ (vp_in r3 200 ∧ wp_M_greater ((h10.2.1 48 (r5 : Int32).toNatClampNeg)) ((h10.2.1 48 (r3 : Int32).toNatClampNeg)) h10 (fun (r11 : Int64) (h12 : zH) => wp_M_part5 (63) (l1) ((h8.1 46 (r5 : Int32).toNatClampNeg)) (r9) (r11) h12 (fun (r13 : Int32) (h14 : zH) => (vp_in r13 200 ∧ ∀ h15 : zH, h15 = zi h14 49 (r13 : Int32).toNatClampNeg r7 → (vp_in r13 200 ∧ ∀ h16 : zH, h16 = zi h15 50 (r13 : Int32).toNatClampNeg r5 → (vp_in r13 200 ∧ ∀ h17 : zH, h17 = zi h16 51 (r13 : Int32).toNatClampNeg r3 → (vp_in r7 200 ∧ (vp_in r5 200 ∧ (vp_in r3 200 ∧ wp_M_greater (((h17.1 52 (r5 : Int32).toNatClampNeg) : Int32).toInt64) (((h17.1 52 (r3 : Int32).toNatClampNeg) : Int32).toInt64) h17 (fun (r18 : Int64) (h19 : zH) => wp_M_greater (((h17.1 52 (r7 : Int32).toNatClampNeg) : Int32).toInt64) (r18) h19 (fun (r20 : Int64) (h21 : zH) => (vp_in r13 200 ∧ ∀ h22 : zH, h22 = zi h21 52 (r13 : Int32).toNatClampNeg (1 + (r20 : Int64).toInt32) → wp_M_push (r13) h22 (fun (h24 : zH) => post h24))))))))))))))))))) ∧ (¬ (h8.1 46 (r5 : Int32).toNatClampNeg) = (h8.1 46 (r3 : Int32).toNatClampNeg) → b_M_doChoice_42 post (l1) h8))))))))))
set_option maxRecDepth 100000 in
set_option maxHeartbeats 4000000 in
theorem w_M_doChoice_42 {l : Launch} {E : zE} {G : (Nat → Prop) → State → Prop} {p : Program} {e : Env} {s : State} {m : MethodId} {args : Array Value} {below : List Frame} {meth : Method} {c : Code} {A : Nat → Prop} {post : zH → Prop} (hG : xGG E G) (C : zCx p s m args meth c E G A 2 49 prog_10_method_25_code 6 cn_M) (hr : meth.sig.returnType = none)  (l1 : Int32) (h : zH) (hw : b_M_doChoice_42 post l1 h) : zGo p l e s m args below meth c E A 2 49 6 (zPv post) h 42 [some (.ref (E.2.2.1 39)), some (.int l1), none, none, none, none] [] := by
  unfold b_M_doChoice_42 at hw
  refine z_aload_n C (i := 0) d_M_doChoice_42 rfl rfl ?_
  refine z_iconst C (v := 2) d_M_doChoice_43 (by decide) ?_
  refine z_iload_n C (i := 1) d_M_doChoice_44 rfl rfl ?_
  refine z_callVv ⟨xN_ok, hG.1⟩ zT_good C (t_M_bad hG hw) ol_M_124 (by decide) rfl rfl (by decide) (by decide) pl_M_bad rfl rfl (Nat.le_of_ble_eq_true rfl) d_M_doChoice_45 (fun h2 hw => ?_)
  exact z_vret C hr d_M_doChoice_48 hw
set_option maxRecDepth 100000 in
set_option maxHeartbeats 4000000 in
theorem t_M_doChoice {l : Launch} {E : zE} {G : (Nat → Prop) → State → Prop} (hG : xGG E G) {l1 : Int32} {h : zH} {post : zH → Prop} (hw : wp_M_doChoice l1 h post) : Ct l xX E xcl xN zT G 2 49 y_M_doChoice prog_10_method_25_code 6 none [.ref (E.2.2.1 39), .int l1] h (zPv post) := by
  unfold wp_M_doChoice at hw
  refine Ct.of (by decide) (Nat.le_of_ble_eq_true rfl) ?_
  intro p e s m below meth c A C hr
  refine z_lv (lv2 := [some (.ref (E.2.2.1 39)), some (.int l1), none, none, none, none]) rfl ?_
  refine z_aload_n C (i := 0) d_M_doChoice_0 rfl rfl ?_
  refine z_callVi ⟨xN_ok, hG.1⟩ zT_good C (t_M_pop hG hw) ol_M_153 (by decide) rfl rfl (by decide) (by decide) pl_M_pop rfl rfl (Nat.le_of_ble_eq_true rfl) d_M_doChoice_1 (fun r3 h4 hw => ?_)
  refine z_istore_n C (i := 2) d_M_doChoice_4 rfl (by decide) rfl ?_
  refine z_aload_n C (i := 0) d_M_doChoice_5 rfl rfl ?_
  refine z_callVi ⟨xN_ok, hG.1⟩ zT_good C (t_M_pop hG hw) ol_M_153 (by decide) rfl rfl (by decide) (by decide) pl_M_pop rfl rfl (Nat.le_of_ble_eq_true rfl) d_M_doChoice_6 (fun r5 h6 hw => ?_)
  refine z_istore_n C (i := 3) d_M_doChoice_9 rfl (by decide) rfl ?_
  refine z_aload_n C (i := 0) d_M_doChoice_10 rfl rfl ?_
  refine z_callVi ⟨xN_ok, hG.1⟩ zT_good C (t_M_pop hG hw) ol_M_153 (by decide) rfl rfl (by decide) (by decide) pl_M_pop rfl rfl (Nat.le_of_ble_eq_true rfl) d_M_doChoice_11 (fun r7 h8 hw => ?_)
  refine z_istore C d_M_doChoice_14 (by decide) rfl ?_
  refine z_aload_n C (i := 0) d_M_doChoice_16 rfl rfl ?_
  refine z_getS C (ci := 8) (j := 14) (F := cf_M) (by decide) rfl rfl in_M (by decide) fl_M_28 rfl d_M_doChoice_17 ?_
  refine z_iload C d_M_doChoice_20 rfl ?_
  refine z_iald C (by decide) rfl hw.1 d_M_doChoice_22 ?_
  replace hw := hw.2
  refine z_iconst C (v := 1) d_M_doChoice_23 (by decide) ?_
  refine z_icmp_ne C (tgt := 42) d_M_doChoice_24 (by decide) (fun q => ?_) (fun q => ?_)
  · replace hw := hw.1 q
    refine z_le (lv2 := [some (.ref (E.2.2.1 39)), some (.int l1), none, none, none, none]) (⟨rfl, ⟨rfl, trivial⟩⟩) ?_
    exact w_M_doChoice_42 hG C hr _ _ hw
  · replace hw := hw.2 q
    refine z_aload_n C (i := 0) d_M_doChoice_27 rfl rfl ?_
    refine z_getS C (ci := 8) (j := 14) (F := cf_M) (by decide) rfl rfl in_M (by decide) fl_M_28 rfl d_M_doChoice_28 ?_
    refine z_iload_n C (i := 3) d_M_doChoice_31 rfl rfl ?_
    refine z_iald C (by decide) rfl hw.1 d_M_doChoice_32 ?_
    replace hw := hw.2
    refine z_aload_n C (i := 0) d_M_doChoice_33 rfl rfl ?_
    refine z_getS C (ci := 8) (j := 14) (F := cf_M) (by decide) rfl rfl in_M (by decide) fl_M_28 rfl d_M_doChoice_34 ?_
    refine z_iload_n C (i := 2) d_M_doChoice_37 rfl rfl ?_
    refine z_iald C (by decide) rfl hw.1 d_M_doChoice_38 ?_
    replace hw := hw.2
    refine z_icmp_eq C (tgt := 49) d_M_doChoice_39 (by decide) (fun q => ?_) (fun q => ?_)
    · replace hw := hw.1 q
      refine z_aload_n C (i := 0) d_M_doChoice_49 rfl rfl ?_
      refine z_bipush C (v := 63) d_M_doChoice_50 (by decide) ?_
      refine z_iload_n C (i := 1) d_M_doChoice_52 rfl rfl ?_
      refine z_aload_n C (i := 0) d_M_doChoice_53 rfl rfl ?_
      refine z_getS C (ci := 8) (j := 14) (F := cf_M) (by decide) rfl rfl in_M (by decide) fl_M_28 rfl d_M_doChoice_54 ?_
      refine z_iload_n C (i := 3) d_M_doChoice_57 rfl rfl ?_
      refine z_iald C (by decide) rfl hw.1 d_M_doChoice_58 ?_
      replace hw := hw.2
      refine z_aload_n C (i := 0) d_M_doChoice_59 rfl rfl ?_
      refine z_getS C (ci := 8) (j := 15) (F := cf_M) (by decide) rfl rfl in_M (by decide) fl_M_31 rfl d_M_doChoice_60 ?_
      refine z_iload_n C (i := 3) d_M_doChoice_63 rfl rfl ?_
      refine z_lald C (by decide) rfl hw.1 d_M_doChoice_64 ?_
      replace hw := hw.2
      refine z_aload_n C (i := 0) d_M_doChoice_65 rfl rfl ?_
      refine z_getS C (ci := 8) (j := 15) (F := cf_M) (by decide) rfl rfl in_M (by decide) fl_M_31 rfl d_M_doChoice_66 ?_
      refine z_iload_n C (i := 2) d_M_doChoice_69 rfl rfl ?_
      refine z_lald C (by decide) rfl hw.1 d_M_doChoice_70 ?_
      replace hw := hw.2
      refine z_callSl ⟨xN_ok, hG.1⟩ zT_good C (t_M_lesser hG hw) ol_M_140 (by decide) (by decide) pl_M_lesser rfl rfl (Nat.le_of_ble_eq_true rfl) d_M_doChoice_71 (fun r9 h10 hw => ?_)
      refine z_aload_n C (i := 0) d_M_doChoice_74 rfl rfl ?_
      refine z_getS C (ci := 8) (j := 16) (F := cf_M) (by decide) rfl rfl in_M (by decide) fl_M_35 rfl d_M_doChoice_75 ?_
      refine z_iload_n C (i := 3) d_M_doChoice_78 rfl rfl ?_
      refine z_lald C (by decide) rfl hw.1 d_M_doChoice_79 ?_
      replace hw := hw.2
      refine z_aload_n C (i := 0) d_M_doChoice_80 rfl rfl ?_
      refine z_getS C (ci := 8) (j := 16) (F := cf_M) (by decide) rfl rfl in_M (by decide) fl_M_35 rfl d_M_doChoice_81 ?_
      refine z_iload_n C (i := 2) d_M_doChoice_84 rfl rfl ?_
      refine z_lald C (by decide) rfl hw.1 d_M_doChoice_85 ?_
      replace hw := hw.2
      refine z_callSl ⟨xN_ok, hG.1⟩ zT_good C (t_M_greater hG hw) ol_M_147 (by decide) (by decide) pl_M_greater rfl rfl (Nat.le_of_ble_eq_true rfl) d_M_doChoice_86 (fun r11 h12 hw => ?_)
      refine z_callVi ⟨xN_ok, hG.1⟩ zT_good C (t_M_part5 hG hw) ol_M_167 (by decide) rfl rfl (by decide) (by decide) pl_M_part5 rfl rfl (Nat.le_of_ble_eq_true rfl) d_M_doChoice_89 (fun r13 h14 hw => ?_)
      refine z_istore C d_M_doChoice_92 (by decide) rfl ?_
      refine z_aload_n C (i := 0) d_M_doChoice_94 rfl rfl ?_
      refine z_getS C (ci := 8) (j := 17) (F := cf_M) (by decide) rfl rfl in_M (by decide) fl_M_38 rfl d_M_doChoice_95 ?_
      refine z_iload C d_M_doChoice_98 rfl ?_
      refine z_iload C d_M_doChoice_100 rfl ?_
      refine z_iast C (by decide) rfl hw.1 d_M_doChoice_102 (fun h15 eh15 => ?_)
      replace hw := hw.2 h15 eh15
      refine z_aload_n C (i := 0) d_M_doChoice_103 rfl rfl ?_
      refine z_getS C (ci := 8) (j := 18) (F := cf_M) (by decide) rfl rfl in_M (by decide) fl_M_41 rfl d_M_doChoice_104 ?_
      refine z_iload C d_M_doChoice_107 rfl ?_
      refine z_iload_n C (i := 3) d_M_doChoice_109 rfl rfl ?_
      refine z_iast C (by decide) rfl hw.1 d_M_doChoice_110 (fun h16 eh16 => ?_)
      replace hw := hw.2 h16 eh16
      refine z_aload_n C (i := 0) d_M_doChoice_111 rfl rfl ?_
      refine z_getS C (ci := 8) (j := 19) (F := cf_M) (by decide) rfl rfl in_M (by decide) fl_M_44 rfl d_M_doChoice_112 ?_
      refine z_iload C d_M_doChoice_115 rfl ?_
      refine z_iload_n C (i := 2) d_M_doChoice_117 rfl rfl ?_
      refine z_iast C (by decide) rfl hw.1 d_M_doChoice_118 (fun h17 eh17 => ?_)
      replace hw := hw.2 h17 eh17
      refine z_aload_n C (i := 0) d_M_doChoice_119 rfl rfl ?_
      refine z_getS C (ci := 8) (j := 20) (F := cf_M) (by decide) rfl rfl in_M (by decide) fl_M_47 rfl d_M_doChoice_120 ?_
      refine z_iload C d_M_doChoice_123 rfl ?_
      refine z_iconst C (v := 1) d_M_doChoice_125 (by decide) ?_
      refine z_aload_n C (i := 0) d_M_doChoice_126 rfl rfl ?_
      refine z_getS C (ci := 8) (j := 20) (F := cf_M) (by decide) rfl rfl in_M (by decide) fl_M_47 rfl d_M_doChoice_127 ?_
      refine z_iload C d_M_doChoice_130 rfl ?_
      refine z_iald C (by decide) rfl hw.1 d_M_doChoice_132 ?_
      replace hw := hw.2
      refine z_i2l C d_M_doChoice_133 ?_
      refine z_aload_n C (i := 0) d_M_doChoice_134 rfl rfl ?_
      refine z_getS C (ci := 8) (j := 20) (F := cf_M) (by decide) rfl rfl in_M (by decide) fl_M_47 rfl d_M_doChoice_135 ?_
      refine z_iload_n C (i := 3) d_M_doChoice_138 rfl rfl ?_
      refine z_iald C (by decide) rfl hw.1 d_M_doChoice_139 ?_
      replace hw := hw.2
      refine z_i2l C d_M_doChoice_140 ?_
      refine z_aload_n C (i := 0) d_M_doChoice_141 rfl rfl ?_
      refine z_getS C (ci := 8) (j := 20) (F := cf_M) (by decide) rfl rfl in_M (by decide) fl_M_47 rfl d_M_doChoice_142 ?_
      refine z_iload_n C (i := 2) d_M_doChoice_145 rfl rfl ?_
      refine z_iald C (by decide) rfl hw.1 d_M_doChoice_146 ?_
      replace hw := hw.2
      refine z_i2l C d_M_doChoice_147 ?_
      refine z_callSl ⟨xN_ok, hG.1⟩ zT_good C (t_M_greater hG hw) ol_M_147 (by decide) (by decide) pl_M_greater rfl rfl (Nat.le_of_ble_eq_true rfl) d_M_doChoice_148 (fun r18 h19 hw => ?_)
      refine z_callSl ⟨xN_ok, hG.1⟩ zT_good C (t_M_greater hG hw) ol_M_147 (by decide) (by decide) pl_M_greater rfl rfl (Nat.le_of_ble_eq_true rfl) d_M_doChoice_151 (fun r20 h21 hw => ?_)
      refine z_l2i C d_M_doChoice_154 ?_
      refine z_iadd C d_M_doChoice_155 ?_
      refine z_iast C (by decide) rfl hw.1 d_M_doChoice_156 (fun h22 eh22 => ?_)
      replace hw := hw.2 h22 eh22
      refine z_aload_n C (i := 0) d_M_doChoice_157 rfl rfl ?_
      refine z_iload C d_M_doChoice_158 rfl ?_
      refine z_callVv ⟨xN_ok, hG.1⟩ zT_good C (t_M_push hG hw) ol_M_171 (by decide) rfl rfl (by decide) (by decide) pl_M_push rfl rfl (Nat.le_of_ble_eq_true rfl) d_M_doChoice_160 (fun h24 hw => ?_)
      exact z_vret C hr d_M_doChoice_163 hw
    · replace hw := hw.2 q
      refine z_le (lv2 := [some (.ref (E.2.2.1 39)), some (.int l1), none, none, none, none]) (⟨rfl, ⟨rfl, trivial⟩⟩) ?_
      exact w_M_doChoice_42 hG C hr _ _ hw
theorem d_M_doOne_0 : decode prog_10_method_24_code 0 = .ok (.aload_n 0, 1) := by decide +kernel
theorem d_M_doOne_1 : decode prog_10_method_24_code 1 = .ok (.invokevirtual 153, 3) := by decide +kernel
theorem d_M_doOne_4 : decode prog_10_method_24_code 4 = .ok (.istore_n 3, 1) := by decide +kernel
theorem d_M_doOne_5 : decode prog_10_method_24_code 5 = .ok (.aload_n 0, 1) := by decide +kernel
theorem d_M_doOne_6 : decode prog_10_method_24_code 6 = .ok (.getfield 28, 3) := by decide +kernel
theorem d_M_doOne_9 : decode prog_10_method_24_code 9 = .ok (.iload_n 3, 1) := by decide +kernel
theorem d_M_doOne_10 : decode prog_10_method_24_code 10 = .ok (.iaload, 1) := by decide +kernel
theorem d_M_doOne_11 : decode prog_10_method_24_code 11 = .ok (.iload_n 1, 1) := by decide +kernel
theorem d_M_doOne_12 : decode prog_10_method_24_code 12 = .ok (.bipush (33), 2) := by decide +kernel
theorem d_M_doOne_14 : decode prog_10_method_24_code 14 = .ok (.if_icmp .ne (7), 3) := by decide +kernel
theorem d_M_doOne_17 : decode prog_10_method_24_code 17 = .ok (.iconst 1, 1) := by decide +kernel
theorem d_M_doOne_18 : decode prog_10_method_24_code 18 = .ok (.goto (4), 3) := by decide +kernel
theorem d_M_doOne_21 : decode prog_10_method_24_code 21 = .ok (.iconst 0, 1) := by decide +kernel
theorem d_M_doOne_22 : decode prog_10_method_24_code 22 = .ok (.if_icmp .eq (10), 3) := by decide +kernel
theorem d_M_doOne_25 : decode prog_10_method_24_code 25 = .ok (.aload_n 0, 1) := by decide +kernel
theorem d_M_doOne_26 : decode prog_10_method_24_code 26 = .ok (.iconst 2, 1) := by decide +kernel
theorem d_M_doOne_27 : decode prog_10_method_24_code 27 = .ok (.iload_n 2, 1) := by decide +kernel
theorem d_M_doOne_28 : decode prog_10_method_24_code 28 = .ok (.invokevirtual 124, 3) := by decide +kernel
theorem d_M_doOne_31 : decode prog_10_method_24_code 31 = .ok (.return_, 1) := by decide +kernel
theorem d_M_doOne_32 : decode prog_10_method_24_code 32 = .ok (.aload_n 0, 1) := by decide +kernel
theorem d_M_doOne_33 : decode prog_10_method_24_code 33 = .ok (.getfield 31, 3) := by decide +kernel
theorem d_M_doOne_36 : decode prog_10_method_24_code 36 = .ok (.iload_n 3, 1) := by decide +kernel
theorem d_M_doOne_37 : decode prog_10_method_24_code 37 = .ok (.laload, 1) := by decide +kernel
theorem d_M_doOne_38 : decode prog_10_method_24_code 38 = .ok (.lstore 4, 2) := by decide +kernel
theorem d_M_doOne_40 : decode prog_10_method_24_code 40 = .ok (.aload_n 0, 1) := by decide +kernel
theorem d_M_doOne_41 : decode prog_10_method_24_code 41 = .ok (.getfield 35, 3) := by decide +kernel
theorem d_M_doOne_44 : decode prog_10_method_24_code 44 = .ok (.iload_n 3, 1) := by decide +kernel
theorem d_M_doOne_45 : decode prog_10_method_24_code 45 = .ok (.laload, 1) := by decide +kernel
theorem d_M_doOne_46 : decode prog_10_method_24_code 46 = .ok (.lstore 6, 2) := by decide +kernel
theorem d_M_doOne_48 : decode prog_10_method_24_code 48 = .ok (.lload 4, 2) := by decide +kernel
theorem d_M_doOne_50 : decode prog_10_method_24_code 50 = .ok (.lconst 0, 1) := by decide +kernel
theorem d_M_doOne_51 : decode prog_10_method_24_code 51 = .ok (.lcmp, 1) := by decide +kernel
theorem d_M_doOne_52 : decode prog_10_method_24_code 52 = .ok (.ifCond .gt (14), 3) := by decide +kernel
theorem d_M_doOne_55 : decode prog_10_method_24_code 55 = .ok (.lload 6, 2) := by decide +kernel
theorem d_M_doOne_57 : decode prog_10_method_24_code 57 = .ok (.lconst 0, 1) := by decide +kernel
theorem d_M_doOne_58 : decode prog_10_method_24_code 58 = .ok (.lcmp, 1) := by decide +kernel
theorem d_M_doOne_59 : decode prog_10_method_24_code 59 = .ok (.ifCond .lt (7), 3) := by decide +kernel
theorem d_M_doOne_62 : decode prog_10_method_24_code 62 = .ok (.iconst 1, 1) := by decide +kernel
theorem d_M_doOne_63 : decode prog_10_method_24_code 63 = .ok (.goto (4), 3) := by decide +kernel
theorem d_M_doOne_66 : decode prog_10_method_24_code 66 = .ok (.iconst 0, 1) := by decide +kernel
theorem d_M_doOne_67 : decode prog_10_method_24_code 67 = .ok (.istore 8, 2) := by decide +kernel
theorem d_M_doOne_69 : decode prog_10_method_24_code 69 = .ok (.iload_n 1, 1) := by decide +kernel
theorem d_M_doOne_70 : decode prog_10_method_24_code 70 = .ok (.bipush (33), 2) := by decide +kernel
theorem d_M_doOne_72 : decode prog_10_method_24_code 72 = .ok (.if_icmp .ne (7), 3) := by decide +kernel
theorem d_M_doOne_75 : decode prog_10_method_24_code 75 = .ok (.lconst 0, 1) := by decide +kernel
theorem d_M_doOne_76 : decode prog_10_method_24_code 76 = .ok (.goto (37), 3) := by decide +kernel
theorem d_M_doOne_79 : decode prog_10_method_24_code 79 = .ok (.iload_n 1, 1) := by decide +kernel
theorem d_M_doOne_80 : decode prog_10_method_24_code 80 = .ok (.bipush (100), 2) := by decide +kernel
theorem d_M_doOne_82 : decode prog_10_method_24_code 82 = .ok (.if_icmp .ne (9), 3) := by decide +kernel
theorem d_M_doOne_85 : decode prog_10_method_24_code 85 = .ok (.lload 6, 2) := by decide +kernel
theorem d_M_doOne_87 : decode prog_10_method_24_code 87 = .ok (.lneg, 1) := by decide +kernel
theorem d_M_doOne_88 : decode prog_10_method_24_code 88 = .ok (.goto (25), 3) := by decide +kernel
theorem d_M_doOne_91 : decode prog_10_method_24_code 91 = .ok (.iload 8, 2) := by decide +kernel
theorem d_M_doOne_93 : decode prog_10_method_24_code 93 = .ok (.ifCond .eq (7), 3) := by decide +kernel
theorem d_M_doOne_96 : decode prog_10_method_24_code 96 = .ok (.lconst 0, 1) := by decide +kernel
theorem d_M_doOne_97 : decode prog_10_method_24_code 97 = .ok (.goto (16), 3) := by decide +kernel
theorem d_M_doOne_100 : decode prog_10_method_24_code 100 = .ok (.lload 4, 2) := by decide +kernel
theorem d_M_doOne_102 : decode prog_10_method_24_code 102 = .ok (.invokestatic 164, 3) := by decide +kernel
theorem d_M_doOne_105 : decode prog_10_method_24_code 105 = .ok (.lload 6, 2) := by decide +kernel
theorem d_M_doOne_107 : decode prog_10_method_24_code 107 = .ok (.invokestatic 164, 3) := by decide +kernel
theorem d_M_doOne_110 : decode prog_10_method_24_code 110 = .ok (.invokestatic 140, 3) := by decide +kernel
theorem d_M_doOne_113 : decode prog_10_method_24_code 113 = .ok (.lstore 9, 2) := by decide +kernel
theorem d_M_doOne_115 : decode prog_10_method_24_code 115 = .ok (.iload_n 1, 1) := by decide +kernel
theorem d_M_doOne_116 : decode prog_10_method_24_code 116 = .ok (.bipush (33), 2) := by decide +kernel
theorem d_M_doOne_118 : decode prog_10_method_24_code 118 = .ok (.if_icmp .ne (7), 3) := by decide +kernel
theorem d_M_doOne_121 : decode prog_10_method_24_code 121 = .ok (.lconst 1, 1) := by decide +kernel
theorem d_M_doOne_122 : decode prog_10_method_24_code 122 = .ok (.goto (28), 3) := by decide +kernel
theorem d_M_doOne_125 : decode prog_10_method_24_code 125 = .ok (.iload_n 1, 1) := by decide +kernel
theorem d_M_doOne_126 : decode prog_10_method_24_code 126 = .ok (.bipush (100), 2) := by decide +kernel
theorem d_M_doOne_128 : decode prog_10_method_24_code 128 = .ok (.if_icmp .ne (9), 3) := by decide +kernel
theorem d_M_doOne_131 : decode prog_10_method_24_code 131 = .ok (.lload 4, 2) := by decide +kernel
theorem d_M_doOne_133 : decode prog_10_method_24_code 133 = .ok (.lneg, 1) := by decide +kernel
theorem d_M_doOne_134 : decode prog_10_method_24_code 134 = .ok (.goto (16), 3) := by decide +kernel
theorem d_M_doOne_137 : decode prog_10_method_24_code 137 = .ok (.lload 4, 2) := by decide +kernel
theorem d_M_doOne_139 : decode prog_10_method_24_code 139 = .ok (.invokestatic 164, 3) := by decide +kernel
theorem d_M_doOne_142 : decode prog_10_method_24_code 142 = .ok (.lload 6, 2) := by decide +kernel
theorem d_M_doOne_144 : decode prog_10_method_24_code 144 = .ok (.invokestatic 164, 3) := by decide +kernel
theorem d_M_doOne_147 : decode prog_10_method_24_code 147 = .ok (.invokestatic 147, 3) := by decide +kernel
theorem d_M_doOne_150 : decode prog_10_method_24_code 150 = .ok (.lstore 11, 2) := by decide +kernel
theorem d_M_doOne_152 : decode prog_10_method_24_code 152 = .ok (.aload_n 0, 1) := by decide +kernel
theorem d_M_doOne_153 : decode prog_10_method_24_code 153 = .ok (.iload_n 1, 1) := by decide +kernel
theorem d_M_doOne_154 : decode prog_10_method_24_code 154 = .ok (.iload_n 2, 1) := by decide +kernel
theorem d_M_doOne_155 : decode prog_10_method_24_code 155 = .ok (.iload_n 1, 1) := by decide +kernel
theorem d_M_doOne_156 : decode prog_10_method_24_code 156 = .ok (.bipush (33), 2) := by decide +kernel
theorem d_M_doOne_158 : decode prog_10_method_24_code 158 = .ok (.if_icmp .ne (7), 3) := by decide +kernel
theorem d_M_doOne_161 : decode prog_10_method_24_code 161 = .ok (.iconst 1, 1) := by decide +kernel
theorem d_M_doOne_162 : decode prog_10_method_24_code 162 = .ok (.goto (4), 3) := by decide +kernel
theorem d_M_doOne_165 : decode prog_10_method_24_code 165 = .ok (.iconst 0, 1) := by decide +kernel
theorem d_M_doOne_166 : decode prog_10_method_24_code 166 = .ok (.lload 9, 2) := by decide +kernel
theorem d_M_doOne_168 : decode prog_10_method_24_code 168 = .ok (.lload 11, 2) := by decide +kernel
theorem d_M_doOne_170 : decode prog_10_method_24_code 170 = .ok (.invokevirtual 167, 3) := by decide +kernel
theorem d_M_doOne_173 : decode prog_10_method_24_code 173 = .ok (.istore 13, 2) := by decide +kernel
theorem d_M_doOne_175 : decode prog_10_method_24_code 175 = .ok (.aload_n 0, 1) := by decide +kernel
theorem d_M_doOne_176 : decode prog_10_method_24_code 176 = .ok (.getfield 38, 3) := by decide +kernel
theorem d_M_doOne_179 : decode prog_10_method_24_code 179 = .ok (.iload 13, 2) := by decide +kernel
theorem d_M_doOne_181 : decode prog_10_method_24_code 181 = .ok (.iload_n 3, 1) := by decide +kernel
theorem d_M_doOne_182 : decode prog_10_method_24_code 182 = .ok (.iastore, 1) := by decide +kernel
theorem d_M_doOne_183 : decode prog_10_method_24_code 183 = .ok (.aload_n 0, 1) := by decide +kernel
theorem d_M_doOne_184 : decode prog_10_method_24_code 184 = .ok (.getfield 47, 3) := by decide +kernel
theorem d_M_doOne_187 : decode prog_10_method_24_code 187 = .ok (.iload 13, 2) := by decide +kernel
theorem d_M_doOne_189 : decode prog_10_method_24_code 189 = .ok (.iconst 1, 1) := by decide +kernel
theorem d_M_doOne_190 : decode prog_10_method_24_code 190 = .ok (.aload_n 0, 1) := by decide +kernel
theorem d_M_doOne_191 : decode prog_10_method_24_code 191 = .ok (.getfield 47, 3) := by decide +kernel
theorem d_M_doOne_194 : decode prog_10_method_24_code 194 = .ok (.iload_n 3, 1) := by decide +kernel
theorem d_M_doOne_195 : decode prog_10_method_24_code 195 = .ok (.iaload, 1) := by decide +kernel
theorem d_M_doOne_196 : decode prog_10_method_24_code 196 = .ok (.iadd, 1) := by decide +kernel
theorem d_M_doOne_197 : decode prog_10_method_24_code 197 = .ok (.iastore, 1) := by decide +kernel
theorem d_M_doOne_198 : decode prog_10_method_24_code 198 = .ok (.aload_n 0, 1) := by decide +kernel
theorem d_M_doOne_199 : decode prog_10_method_24_code 199 = .ok (.iload 13, 2) := by decide +kernel
theorem d_M_doOne_201 : decode prog_10_method_24_code 201 = .ok (.invokevirtual 171, 3) := by decide +kernel
theorem d_M_doOne_204 : decode prog_10_method_24_code 204 = .ok (.return_, 1) := by decide +kernel
def b_M_doOne_166 (post : zH → Prop) (l3 : Int32) (l9 : Int64) (l11 : Int64) (s0 : Int32) (s1 : Int32) (s2 : Int32) (h : zH) : Prop := wp_M_part5 (s2) (s1) (s0) (l9) (l11) h (fun (r1 : Int32) (h2 : zH) => (vp_in r1 200 ∧ ∀ h3 : zH, h3 = zi h2 49 (r1 : Int32).toNatClampNeg l3 → (vp_in l3 200 ∧ (vp_in r1 200 ∧ ∀ h4 : zH, h4 = zi h3 52 (r1 : Int32).toNatClampNeg (1 + (h3.1 52 (l3 : Int32).toNatClampNeg)) → wp_M_push (r1) h4 (fun (h6 : zH) => post h6)))))
def b_M_doOne_150 (post : zH → Prop) (l1 : Int32) (l2 : Int32) (l3 : Int32) (l9 : Int64) (s0 : Int64) (h : zH) : Prop := ((¬ l1 = 33 → b_M_doOne_166 post (l3) (l9) (s0) (0) (l2) (l1) h) ∧ (l1 = 33 → b_M_doOne_166 post (l3) (l9) (s0) (1) (l2) (l1) h))
def b_M_doOne_113 (post : zH → Prop) (l1 : Int32) (l2 : Int32) (l3 : Int32) (l4 : Int64) (l6 : Int64) (s0 : Int64) (h : zH) : Prop := ((¬ l1 = 33 → ((¬ l1 = 100 → wp_M_size (l4) h (fun (r7 : Int64) (h8 : zH) => wp_M_size (l6) h8 (fun (r9 : Int64) (h10 : zH) => wp_M_greater (r7) (r9) h10 (fun (r11 : Int64) (h12 : zH) => b_M_doOne_150 post (l1) (l2) (l3) (s0) (r11) h12)))) ∧ (l1 = 100 → b_M_doOne_150 post (l1) (l2) (l3) (s0) ((-l4)) h))) ∧ (l1 = 33 → b_M_doOne_150 post (l1) (l2) (l3) (s0) (1) h))
def b_M_doOne_67 (post : zH → Prop) (l1 : Int32) (l2 : Int32) (l3 : Int32) (l4 : Int64) (l6 : Int64) (s0 : Int32) (h : zH) : Prop := ((¬ l1 = 33 → ((¬ l1 = 100 → ((s0 = 0 → wp_M_size (l4) h (fun (r13 : Int64) (h14 : zH) => wp_M_size (l6) h14 (fun (r15 : Int64) (h16 : zH) => wp_M_lesser (r13) (r15) h16 (fun (r17 : Int64) (h18 : zH) => b_M_doOne_113 post (l1) (l2) (l3) (l4) (l6) (r17) h18)))) ∧ (¬ s0 = 0 → b_M_doOne_113 post (l1) (l2) (l3) (l4) (l6) (0) h))) ∧ (l1 = 100 → b_M_doOne_113 post (l1) (l2) (l3) (l4) (l6) ((-l6)) h))) ∧ (l1 = 33 → b_M_doOne_113 post (l1) (l2) (l3) (l4) (l6) (0) h))
def b_M_doOne_66 (post : zH → Prop) (l1 : Int32) (l2 : Int32) (l3 : Int32) (l4 : Int64) (l6 : Int64) (h : zH) : Prop := b_M_doOne_67 post (l1) (l2) (l3) (l4) (l6) (0) h
def b_M_doOne_22 (post : zH → Prop) (l1 : Int32) (l2 : Int32) (l3 : Int32) (s0 : Int32) (s1 : Int32) (h : zH) : Prop := ((s1 = s0 → (vp_in l3 200 ∧ (vp_in l3 200 ∧ ((0 < (lg_cmp (h.2.1 47 (l3 : Int32).toNatClampNeg) 0) → b_M_doOne_66 post (l1) (l2) (l3) ((h.2.1 47 (l3 : Int32).toNatClampNeg)) ((h.2.1 48 (l3 : Int32).toNatClampNeg)) h) ∧ (¬ 0 < (lg_cmp (h.2.1 47 (l3 : Int32).toNatClampNeg) 0) → (((lg_cmp (h.2.1 48 (l3 : Int32).toNatClampNeg) 0) < 0 → b_M_doOne_66 post (l1) (l2) (l3) ((h.2.1 47 (l3 : Int32).toNatClampNeg)) ((h.2.1 48 (l3 : Int32).toNatClampNeg)) h) ∧ (¬ (lg_cmp (h.2.1 48 (l3 : Int32).toNatClampNeg) 0) < 0 → b_M_doOne_67 post (l1) (l2) (l3) ((h.2.1 47 (l3 : Int32).toNatClampNeg)) ((h.2.1 48 (l3 : Int32).toNatClampNeg)) (1) h))))))) ∧ (¬ s1 = s0 → wp_M_bad (2) (l2) h (fun (h20 : zH) => post h20)))
def wp_M_doOne (l1 : Int32) (l2 : Int32) (h : zH) (post : zH → Prop) : Prop := wp_M_pop  h (fun (r21 : Int32) (h22 : zH) => (vp_in r21 200 ∧ ((¬ l1 = 33 → b_M_doOne_22 post (l1) (l2) (r21) (0) ((h22.1 46 (r21 : Int32).toNatClampNeg)) h22) ∧ (l1 = 33 → b_M_doOne_22 post (l1) (l2) (r21) (1) ((h22.1 46 (r21 : Int32).toNatClampNeg)) h22))))
set_option maxRecDepth 100000 in
set_option maxHeartbeats 4000000 in
theorem w_M_doOne_166 {l : Launch} {E : zE} {G : (Nat → Prop) → State → Prop} {p : Program} {e : Env} {s : State} {m : MethodId} {args : Array Value} {below : List Frame} {meth : Method} {c : Code} {A : Nat → Prop} {post : zH → Prop} (hG : xGG E G) (C : zCx p s m args meth c E G A 2 49 prog_10_method_24_code 14 cn_M) (hr : meth.sig.returnType = none)  (l3 : Int32) (l9 : Int64) (l11 : Int64) (s0 : Int32) (s1 : Int32) (s2 : Int32) (h : zH) (hw : b_M_doOne_166 post l3 l9 l11 s0 s1 s2 h) : zGo p l e s m args below meth c E A 2 49 14 (zPv post) h 166 [some (.ref (E.2.2.1 39)), none, none, some (.int l3), none, none, none, none, none, some (.long l9), none, some (.long l11), none, none] [.int s0, .int s1, .int s2, .ref (E.2.2.1 39)] := by
  unfold b_M_doOne_166 at hw
  refine z_lload C d_M_doOne_166 rfl ?_
  refine z_lload C d_M_doOne_168 rfl ?_
  refine z_callVi ⟨xN_ok, hG.1⟩ zT_good C (t_M_part5 hG hw) ol_M_167 (by decide) rfl rfl (by decide) (by decide) pl_M_part5 rfl rfl (Nat.le_of_ble_eq_true rfl) d_M_doOne_170 (fun r1 h2 hw => ?_)
  refine z_istore C d_M_doOne_173 (by decide) rfl ?_
  refine z_aload_n C (i := 0) d_M_doOne_175 rfl rfl ?_
  refine z_getS C (ci := 8) (j := 17) (F := cf_M) (by decide) rfl rfl in_M (by decide) fl_M_38 rfl d_M_doOne_176 ?_
  refine z_iload C d_M_doOne_179 rfl ?_
  refine z_iload_n C (i := 3) d_M_doOne_181 rfl rfl ?_
  refine z_iast C (by decide) rfl hw.1 d_M_doOne_182 (fun h3 eh3 => ?_)
  replace hw := hw.2 h3 eh3
  refine z_aload_n C (i := 0) d_M_doOne_183 rfl rfl ?_
  refine z_getS C (ci := 8) (j := 20) (F := cf_M) (by decide) rfl rfl in_M (by decide) fl_M_47 rfl d_M_doOne_184 ?_
  refine z_iload C d_M_doOne_187 rfl ?_
  refine z_iconst C (v := 1) d_M_doOne_189 (by decide) ?_
  refine z_aload_n C (i := 0) d_M_doOne_190 rfl rfl ?_
  refine z_getS C (ci := 8) (j := 20) (F := cf_M) (by decide) rfl rfl in_M (by decide) fl_M_47 rfl d_M_doOne_191 ?_
  refine z_iload_n C (i := 3) d_M_doOne_194 rfl rfl ?_
  refine z_iald C (by decide) rfl hw.1 d_M_doOne_195 ?_
  replace hw := hw.2
  refine z_iadd C d_M_doOne_196 ?_
  refine z_iast C (by decide) rfl hw.1 d_M_doOne_197 (fun h4 eh4 => ?_)
  replace hw := hw.2 h4 eh4
  refine z_aload_n C (i := 0) d_M_doOne_198 rfl rfl ?_
  refine z_iload C d_M_doOne_199 rfl ?_
  refine z_callVv ⟨xN_ok, hG.1⟩ zT_good C (t_M_push hG hw) ol_M_171 (by decide) rfl rfl (by decide) (by decide) pl_M_push rfl rfl (Nat.le_of_ble_eq_true rfl) d_M_doOne_201 (fun h6 hw => ?_)
  exact z_vret C hr d_M_doOne_204 hw
set_option maxRecDepth 100000 in
set_option maxHeartbeats 4000000 in
theorem w_M_doOne_150 {l : Launch} {E : zE} {G : (Nat → Prop) → State → Prop} {p : Program} {e : Env} {s : State} {m : MethodId} {args : Array Value} {below : List Frame} {meth : Method} {c : Code} {A : Nat → Prop} {post : zH → Prop} (hG : xGG E G) (C : zCx p s m args meth c E G A 2 49 prog_10_method_24_code 14 cn_M) (hr : meth.sig.returnType = none)  (l1 : Int32) (l2 : Int32) (l3 : Int32) (l9 : Int64) (s0 : Int64) (h : zH) (hw : b_M_doOne_150 post l1 l2 l3 l9 s0 h) : zGo p l e s m args below meth c E A 2 49 14 (zPv post) h 150 [some (.ref (E.2.2.1 39)), some (.int l1), some (.int l2), some (.int l3), none, none, none, none, none, some (.long l9), none, none, none, none] [.long s0] := by
  unfold b_M_doOne_150 at hw
  refine z_lstore C d_M_doOne_150 (by decide) rfl ?_
  refine z_aload_n C (i := 0) d_M_doOne_152 rfl rfl ?_
  refine z_iload_n C (i := 1) d_M_doOne_153 rfl rfl ?_
  refine z_iload_n C (i := 2) d_M_doOne_154 rfl rfl ?_
  refine z_iload_n C (i := 1) d_M_doOne_155 rfl rfl ?_
  refine z_bipush C (v := 33) d_M_doOne_156 (by decide) ?_
  refine z_icmp_ne C (tgt := 165) d_M_doOne_158 (by decide) (fun q => ?_) (fun q => ?_)
  · replace hw := hw.1 q
    refine z_iconst C (v := 0) d_M_doOne_165 (by decide) ?_
    refine z_le (lv2 := [some (.ref (E.2.2.1 39)), none, none, some (.int l3), none, none, none, none, none, some (.long l9), none, some (.long s0), none, none]) (⟨rfl, ⟨rfl, ⟨rfl, ⟨rfl, trivial⟩⟩⟩⟩) ?_
    exact w_M_doOne_166 hG C hr _ _ _ _ _ _ _ hw
  · replace hw := hw.2 q
    refine z_iconst C (v := 1) d_M_doOne_161 (by decide) ?_
    refine z_goto C (tgt := 166) d_M_doOne_162 (by decide) ?_
    refine z_le (lv2 := [some (.ref (E.2.2.1 39)), none, none, some (.int l3), none, none, none, none, none, some (.long l9), none, some (.long s0), none, none]) (⟨rfl, ⟨rfl, ⟨rfl, ⟨rfl, trivial⟩⟩⟩⟩) ?_
    exact w_M_doOne_166 hG C hr _ _ _ _ _ _ _ hw
set_option maxRecDepth 100000 in
set_option maxHeartbeats 4000000 in
theorem w_M_doOne_113 {l : Launch} {E : zE} {G : (Nat → Prop) → State → Prop} {p : Program} {e : Env} {s : State} {m : MethodId} {args : Array Value} {below : List Frame} {meth : Method} {c : Code} {A : Nat → Prop} {post : zH → Prop} (hG : xGG E G) (C : zCx p s m args meth c E G A 2 49 prog_10_method_24_code 14 cn_M) (hr : meth.sig.returnType = none)  (l1 : Int32) (l2 : Int32) (l3 : Int32) (l4 : Int64) (l6 : Int64) (s0 : Int64) (h : zH) (hw : b_M_doOne_113 post l1 l2 l3 l4 l6 s0 h) : zGo p l e s m args below meth c E A 2 49 14 (zPv post) h 113 [some (.ref (E.2.2.1 39)), some (.int l1), some (.int l2), some (.int l3), some (.long l4), none, some (.long l6), none, none, none, none, none, none, none] [.long s0] := by
  unfold b_M_doOne_113 at hw
  refine z_lstore C d_M_doOne_113 (by decide) rfl ?_
  refine z_iload_n C (i := 1) d_M_doOne_115 rfl rfl ?_
  refine z_bipush C (v := 33) d_M_doOne_116 (by decide) ?_
  refine z_icmp_ne C (tgt := 125) d_M_doOne_118 (by decide) (fun q => ?_) (fun q => ?_)
  · replace hw := hw.1 q
    refine z_iload_n C (i := 1) d_M_doOne_125 rfl rfl ?_
    refine z_bipush C (v := 100) d_M_doOne_126 (by decide) ?_
    refine z_icmp_ne C (tgt := 137) d_M_doOne_128 (by decide) (fun q => ?_) (fun q => ?_)
    · replace hw := hw.1 q
      refine z_lload C d_M_doOne_137 rfl ?_
      refine z_callSl ⟨xN_ok, hG.1⟩ zT_good C (t_M_size hG hw) ol_M_164 (by decide) (by decide) pl_M_size rfl rfl (Nat.le_of_ble_eq_true rfl) d_M_doOne_139 (fun r7 h8 hw => ?_)
      refine z_lload C d_M_doOne_142 rfl ?_
      refine z_callSl ⟨xN_ok, hG.1⟩ zT_good C (t_M_size hG hw) ol_M_164 (by decide) (by decide) pl_M_size rfl rfl (Nat.le_of_ble_eq_true rfl) d_M_doOne_144 (fun r9 h10 hw => ?_)
      refine z_callSl ⟨xN_ok, hG.1⟩ zT_good C (t_M_greater hG hw) ol_M_147 (by decide) (by decide) pl_M_greater rfl rfl (Nat.le_of_ble_eq_true rfl) d_M_doOne_147 (fun r11 h12 hw => ?_)
      refine z_le (lv2 := [some (.ref (E.2.2.1 39)), some (.int l1), some (.int l2), some (.int l3), none, none, none, none, none, some (.long s0), none, none, none, none]) (⟨rfl, ⟨rfl, ⟨rfl, ⟨rfl, ⟨rfl, trivial⟩⟩⟩⟩⟩) ?_
      exact w_M_doOne_150 hG C hr _ _ _ _ _ _ hw
    · replace hw := hw.2 q
      refine z_lload C d_M_doOne_131 rfl ?_
      refine z_lneg C d_M_doOne_133 ?_
      refine z_goto C (tgt := 150) d_M_doOne_134 (by decide) ?_
      refine z_le (lv2 := [some (.ref (E.2.2.1 39)), some (.int l1), some (.int l2), some (.int l3), none, none, none, none, none, some (.long s0), none, none, none, none]) (⟨rfl, ⟨rfl, ⟨rfl, ⟨rfl, ⟨rfl, trivial⟩⟩⟩⟩⟩) ?_
      exact w_M_doOne_150 hG C hr _ _ _ _ _ _ hw
  · replace hw := hw.2 q
    refine z_lconst C (v := 1) d_M_doOne_121 (by decide) ?_
    refine z_goto C (tgt := 150) d_M_doOne_122 (by decide) ?_
    refine z_le (lv2 := [some (.ref (E.2.2.1 39)), some (.int l1), some (.int l2), some (.int l3), none, none, none, none, none, some (.long s0), none, none, none, none]) (⟨rfl, ⟨rfl, ⟨rfl, ⟨rfl, ⟨rfl, trivial⟩⟩⟩⟩⟩) ?_
    exact w_M_doOne_150 hG C hr _ _ _ _ _ _ hw
set_option maxRecDepth 100000 in
set_option maxHeartbeats 4000000 in
theorem w_M_doOne_67 {l : Launch} {E : zE} {G : (Nat → Prop) → State → Prop} {p : Program} {e : Env} {s : State} {m : MethodId} {args : Array Value} {below : List Frame} {meth : Method} {c : Code} {A : Nat → Prop} {post : zH → Prop} (hG : xGG E G) (C : zCx p s m args meth c E G A 2 49 prog_10_method_24_code 14 cn_M) (hr : meth.sig.returnType = none)  (l1 : Int32) (l2 : Int32) (l3 : Int32) (l4 : Int64) (l6 : Int64) (s0 : Int32) (h : zH) (hw : b_M_doOne_67 post l1 l2 l3 l4 l6 s0 h) : zGo p l e s m args below meth c E A 2 49 14 (zPv post) h 67 [some (.ref (E.2.2.1 39)), some (.int l1), some (.int l2), some (.int l3), some (.long l4), none, some (.long l6), none, none, none, none, none, none, none] [.int s0] := by
  unfold b_M_doOne_67 at hw
  refine z_istore C d_M_doOne_67 (by decide) rfl ?_
  refine z_iload_n C (i := 1) d_M_doOne_69 rfl rfl ?_
  refine z_bipush C (v := 33) d_M_doOne_70 (by decide) ?_
  refine z_icmp_ne C (tgt := 79) d_M_doOne_72 (by decide) (fun q => ?_) (fun q => ?_)
  · replace hw := hw.1 q
    refine z_iload_n C (i := 1) d_M_doOne_79 rfl rfl ?_
    refine z_bipush C (v := 100) d_M_doOne_80 (by decide) ?_
    refine z_icmp_ne C (tgt := 91) d_M_doOne_82 (by decide) (fun q => ?_) (fun q => ?_)
    · replace hw := hw.1 q
      refine z_iload C d_M_doOne_91 rfl ?_
      refine z_if_eq C (tgt := 100) d_M_doOne_93 (by decide) (fun q => ?_) (fun q => ?_)
      · replace hw := hw.1 q
        refine z_lload C d_M_doOne_100 rfl ?_
        refine z_callSl ⟨xN_ok, hG.1⟩ zT_good C (t_M_size hG hw) ol_M_164 (by decide) (by decide) pl_M_size rfl rfl (Nat.le_of_ble_eq_true rfl) d_M_doOne_102 (fun r13 h14 hw => ?_)
        refine z_lload C d_M_doOne_105 rfl ?_
        refine z_callSl ⟨xN_ok, hG.1⟩ zT_good C (t_M_size hG hw) ol_M_164 (by decide) (by decide) pl_M_size rfl rfl (Nat.le_of_ble_eq_true rfl) d_M_doOne_107 (fun r15 h16 hw => ?_)
        refine z_callSl ⟨xN_ok, hG.1⟩ zT_good C (t_M_lesser hG hw) ol_M_140 (by decide) (by decide) pl_M_lesser rfl rfl (Nat.le_of_ble_eq_true rfl) d_M_doOne_110 (fun r17 h18 hw => ?_)
        refine z_le (lv2 := [some (.ref (E.2.2.1 39)), some (.int l1), some (.int l2), some (.int l3), some (.long l4), none, some (.long l6), none, none, none, none, none, none, none]) (⟨rfl, ⟨rfl, ⟨rfl, ⟨rfl, ⟨rfl, ⟨rfl, trivial⟩⟩⟩⟩⟩⟩) ?_
        exact w_M_doOne_113 hG C hr _ _ _ _ _ _ _ hw
      · replace hw := hw.2 q
        refine z_lconst C (v := 0) d_M_doOne_96 (by decide) ?_
        refine z_goto C (tgt := 113) d_M_doOne_97 (by decide) ?_
        refine z_le (lv2 := [some (.ref (E.2.2.1 39)), some (.int l1), some (.int l2), some (.int l3), some (.long l4), none, some (.long l6), none, none, none, none, none, none, none]) (⟨rfl, ⟨rfl, ⟨rfl, ⟨rfl, ⟨rfl, ⟨rfl, trivial⟩⟩⟩⟩⟩⟩) ?_
        exact w_M_doOne_113 hG C hr _ _ _ _ _ _ _ hw
    · replace hw := hw.2 q
      refine z_lload C d_M_doOne_85 rfl ?_
      refine z_lneg C d_M_doOne_87 ?_
      refine z_goto C (tgt := 113) d_M_doOne_88 (by decide) ?_
      refine z_le (lv2 := [some (.ref (E.2.2.1 39)), some (.int l1), some (.int l2), some (.int l3), some (.long l4), none, some (.long l6), none, none, none, none, none, none, none]) (⟨rfl, ⟨rfl, ⟨rfl, ⟨rfl, ⟨rfl, ⟨rfl, trivial⟩⟩⟩⟩⟩⟩) ?_
      exact w_M_doOne_113 hG C hr _ _ _ _ _ _ _ hw
  · replace hw := hw.2 q
    refine z_lconst C (v := 0) d_M_doOne_75 (by decide) ?_
    refine z_goto C (tgt := 113) d_M_doOne_76 (by decide) ?_
    refine z_le (lv2 := [some (.ref (E.2.2.1 39)), some (.int l1), some (.int l2), some (.int l3), some (.long l4), none, some (.long l6), none, none, none, none, none, none, none]) (⟨rfl, ⟨rfl, ⟨rfl, ⟨rfl, ⟨rfl, ⟨rfl, trivial⟩⟩⟩⟩⟩⟩) ?_
    exact w_M_doOne_113 hG C hr _ _ _ _ _ _ _ hw
set_option maxRecDepth 100000 in
set_option maxHeartbeats 4000000 in
theorem w_M_doOne_66 {l : Launch} {E : zE} {G : (Nat → Prop) → State → Prop} {p : Program} {e : Env} {s : State} {m : MethodId} {args : Array Value} {below : List Frame} {meth : Method} {c : Code} {A : Nat → Prop} {post : zH → Prop} (hG : xGG E G) (C : zCx p s m args meth c E G A 2 49 prog_10_method_24_code 14 cn_M) (hr : meth.sig.returnType = none)  (l1 : Int32) (l2 : Int32) (l3 : Int32) (l4 : Int64) (l6 : Int64) (h : zH) (hw : b_M_doOne_66 post l1 l2 l3 l4 l6 h) : zGo p l e s m args below meth c E A 2 49 14 (zPv post) h 66 [some (.ref (E.2.2.1 39)), some (.int l1), some (.int l2), some (.int l3), some (.long l4), none, some (.long l6), none, none, none, none, none, none, none] [] := by
  unfold b_M_doOne_66 at hw
  refine z_iconst C (v := 0) d_M_doOne_66 (by decide) ?_
  refine z_le (lv2 := [some (.ref (E.2.2.1 39)), some (.int l1), some (.int l2), some (.int l3), some (.long l4), none, some (.long l6), none, none, none, none, none, none, none]) (⟨rfl, ⟨rfl, ⟨rfl, ⟨rfl, ⟨rfl, ⟨rfl, trivial⟩⟩⟩⟩⟩⟩) ?_
  exact w_M_doOne_67 hG C hr _ _ _ _ _ _ _ hw
set_option maxRecDepth 100000 in
set_option maxHeartbeats 4000000 in
theorem w_M_doOne_22 {l : Launch} {E : zE} {G : (Nat → Prop) → State → Prop} {p : Program} {e : Env} {s : State} {m : MethodId} {args : Array Value} {below : List Frame} {meth : Method} {c : Code} {A : Nat → Prop} {post : zH → Prop} (hG : xGG E G) (C : zCx p s m args meth c E G A 2 49 prog_10_method_24_code 14 cn_M) (hr : meth.sig.returnType = none)  (l1 : Int32) (l2 : Int32) (l3 : Int32) (s0 : Int32) (s1 : Int32) (h : zH) (hw : b_M_doOne_22 post l1 l2 l3 s0 s1 h) : zGo p l e s m args below meth c E A 2 49 14 (zPv post) h 22 [some (.ref (E.2.2.1 39)), some (.int l1), some (.int l2), some (.int l3), none, none, none, none, none, none, none, none, none, none] [.int s0, .int s1] := by
  unfold b_M_doOne_22 at hw
  refine z_icmp_eq C (tgt := 32) d_M_doOne_22 (by decide) (fun q => ?_) (fun q => ?_)
  · replace hw := hw.1 q
    refine z_aload_n C (i := 0) d_M_doOne_32 rfl rfl ?_
    refine z_getS C (ci := 8) (j := 15) (F := cf_M) (by decide) rfl rfl in_M (by decide) fl_M_31 rfl d_M_doOne_33 ?_
    refine z_iload_n C (i := 3) d_M_doOne_36 rfl rfl ?_
    refine z_lald C (by decide) rfl hw.1 d_M_doOne_37 ?_
    replace hw := hw.2
    refine z_lstore C d_M_doOne_38 (by decide) rfl ?_
    refine z_aload_n C (i := 0) d_M_doOne_40 rfl rfl ?_
    refine z_getS C (ci := 8) (j := 16) (F := cf_M) (by decide) rfl rfl in_M (by decide) fl_M_35 rfl d_M_doOne_41 ?_
    refine z_iload_n C (i := 3) d_M_doOne_44 rfl rfl ?_
    refine z_lald C (by decide) rfl hw.1 d_M_doOne_45 ?_
    replace hw := hw.2
    refine z_lstore C d_M_doOne_46 (by decide) rfl ?_
    refine z_lload C d_M_doOne_48 rfl ?_
    refine z_lconst C (v := 0) d_M_doOne_50 (by decide) ?_
    refine z_lcmp C d_M_doOne_51 ?_
    refine z_if_gt C (tgt := 66) d_M_doOne_52 (by decide) (fun q => ?_) (fun q => ?_)
    · replace hw := hw.1 q
      refine z_le (lv2 := [some (.ref (E.2.2.1 39)), some (.int l1), some (.int l2), some (.int l3), some (.long (h.2.1 47 (l3 : Int32).toNatClampNeg)), none, some (.long (h.2.1 48 (l3 : Int32).toNatClampNeg)), none, none, none, none, none, none, none]) (⟨rfl, ⟨rfl, ⟨rfl, ⟨rfl, ⟨rfl, ⟨rfl, trivial⟩⟩⟩⟩⟩⟩) ?_
      exact w_M_doOne_66 hG C hr _ _ _ _ _ _ hw
    · replace hw := hw.2 q
      refine z_lload C d_M_doOne_55 rfl ?_
      refine z_lconst C (v := 0) d_M_doOne_57 (by decide) ?_
      refine z_lcmp C d_M_doOne_58 ?_
      refine z_if_lt C (tgt := 66) d_M_doOne_59 (by decide) (fun q => ?_) (fun q => ?_)
      · replace hw := hw.1 q
        refine z_le (lv2 := [some (.ref (E.2.2.1 39)), some (.int l1), some (.int l2), some (.int l3), some (.long (h.2.1 47 (l3 : Int32).toNatClampNeg)), none, some (.long (h.2.1 48 (l3 : Int32).toNatClampNeg)), none, none, none, none, none, none, none]) (⟨rfl, ⟨rfl, ⟨rfl, ⟨rfl, ⟨rfl, ⟨rfl, trivial⟩⟩⟩⟩⟩⟩) ?_
        exact w_M_doOne_66 hG C hr _ _ _ _ _ _ hw
      · replace hw := hw.2 q
        refine z_iconst C (v := 1) d_M_doOne_62 (by decide) ?_
        refine z_goto C (tgt := 67) d_M_doOne_63 (by decide) ?_
        refine z_le (lv2 := [some (.ref (E.2.2.1 39)), some (.int l1), some (.int l2), some (.int l3), some (.long (h.2.1 47 (l3 : Int32).toNatClampNeg)), none, some (.long (h.2.1 48 (l3 : Int32).toNatClampNeg)), none, none, none, none, none, none, none]) (⟨rfl, ⟨rfl, ⟨rfl, ⟨rfl, ⟨rfl, ⟨rfl, trivial⟩⟩⟩⟩⟩⟩) ?_
        exact w_M_doOne_67 hG C hr _ _ _ _ _ _ _ hw
  · replace hw := hw.2 q
    refine z_aload_n C (i := 0) d_M_doOne_25 rfl rfl ?_
    refine z_iconst C (v := 2) d_M_doOne_26 (by decide) ?_
    refine z_iload_n C (i := 2) d_M_doOne_27 rfl rfl ?_
    refine z_callVv ⟨xN_ok, hG.1⟩ zT_good C (t_M_bad hG hw) ol_M_124 (by decide) rfl rfl (by decide) (by decide) pl_M_bad rfl rfl (Nat.le_of_ble_eq_true rfl) d_M_doOne_28 (fun h20 hw => ?_)
    exact z_vret C hr d_M_doOne_31 hw
set_option maxRecDepth 100000 in
set_option maxHeartbeats 4000000 in
theorem t_M_doOne {l : Launch} {E : zE} {G : (Nat → Prop) → State → Prop} (hG : xGG E G) {l1 : Int32} {l2 : Int32} {h : zH} {post : zH → Prop} (hw : wp_M_doOne l1 l2 h post) : Ct l xX E xcl xN zT G 2 49 y_M_doOne prog_10_method_24_code 14 none [.ref (E.2.2.1 39), .int l1, .int l2] h (zPv post) := by
  unfold wp_M_doOne at hw
  refine Ct.of (by decide) (Nat.le_of_ble_eq_true rfl) ?_
  intro p e s m below meth c A C hr
  refine z_lv (lv2 := [some (.ref (E.2.2.1 39)), some (.int l1), some (.int l2), none, none, none, none, none, none, none, none, none, none, none]) rfl ?_
  refine z_aload_n C (i := 0) d_M_doOne_0 rfl rfl ?_
  refine z_callVi ⟨xN_ok, hG.1⟩ zT_good C (t_M_pop hG hw) ol_M_153 (by decide) rfl rfl (by decide) (by decide) pl_M_pop rfl rfl (Nat.le_of_ble_eq_true rfl) d_M_doOne_1 (fun r21 h22 hw => ?_)
  refine z_istore_n C (i := 3) d_M_doOne_4 rfl (by decide) rfl ?_
  refine z_aload_n C (i := 0) d_M_doOne_5 rfl rfl ?_
  refine z_getS C (ci := 8) (j := 14) (F := cf_M) (by decide) rfl rfl in_M (by decide) fl_M_28 rfl d_M_doOne_6 ?_
  refine z_iload_n C (i := 3) d_M_doOne_9 rfl rfl ?_
  refine z_iald C (by decide) rfl hw.1 d_M_doOne_10 ?_
  replace hw := hw.2
  refine z_iload_n C (i := 1) d_M_doOne_11 rfl rfl ?_
  refine z_bipush C (v := 33) d_M_doOne_12 (by decide) ?_
  refine z_icmp_ne C (tgt := 21) d_M_doOne_14 (by decide) (fun q => ?_) (fun q => ?_)
  · replace hw := hw.1 q
    refine z_iconst C (v := 0) d_M_doOne_21 (by decide) ?_
    refine z_le (lv2 := [some (.ref (E.2.2.1 39)), some (.int l1), some (.int l2), some (.int r21), none, none, none, none, none, none, none, none, none, none]) (⟨rfl, ⟨rfl, ⟨rfl, ⟨rfl, trivial⟩⟩⟩⟩) ?_
    exact w_M_doOne_22 hG C hr _ _ _ _ _ _ hw
  · replace hw := hw.2 q
    refine z_iconst C (v := 1) d_M_doOne_17 (by decide) ?_
    refine z_goto C (tgt := 22) d_M_doOne_18 (by decide) ?_
    refine z_le (lv2 := [some (.ref (E.2.2.1 39)), some (.int l1), some (.int l2), some (.int r21), none, none, none, none, none, none, none, none, none, none]) (⟨rfl, ⟨rfl, ⟨rfl, ⟨rfl, trivial⟩⟩⟩⟩) ?_
    exact w_M_doOne_22 hG C hr _ _ _ _ _ _ hw
theorem d_M_sign_0 : decode prog_10_method_5_code 0 = .ok (.iload_n 2, 1) := by decide +kernel
theorem d_M_sign_1 : decode prog_10_method_5_code 1 = .ok (.iconst 4, 1) := by decide +kernel
theorem d_M_sign_2 : decode prog_10_method_5_code 2 = .ok (.if_icmp .ge (7), 3) := by decide +kernel
theorem d_M_sign_5 : decode prog_10_method_5_code 5 = .ok (.iload_n 0, 1) := by decide +kernel
theorem d_M_sign_6 : decode prog_10_method_5_code 6 = .ok (.goto (4), 3) := by decide +kernel
theorem d_M_sign_9 : decode prog_10_method_5_code 9 = .ok (.iload_n 1, 1) := by decide +kernel
theorem d_M_sign_10 : decode prog_10_method_5_code 10 = .ok (.bipush (24), 2) := by decide +kernel
theorem d_M_sign_12 : decode prog_10_method_5_code 12 = .ok (.bipush (8), 2) := by decide +kernel
theorem d_M_sign_14 : decode prog_10_method_5_code 14 = .ok (.iload_n 2, 1) := by decide +kernel
theorem d_M_sign_15 : decode prog_10_method_5_code 15 = .ok (.iconst 3, 1) := by decide +kernel
theorem d_M_sign_16 : decode prog_10_method_5_code 16 = .ok (.iand, 1) := by decide +kernel
theorem d_M_sign_17 : decode prog_10_method_5_code 17 = .ok (.imul, 1) := by decide +kernel
theorem d_M_sign_18 : decode prog_10_method_5_code 18 = .ok (.isub, 1) := by decide +kernel
theorem d_M_sign_19 : decode prog_10_method_5_code 19 = .ok (.ishr, 1) := by decide +kernel
theorem d_M_sign_20 : decode prog_10_method_5_code 20 = .ok (.sipush (255), 3) := by decide +kernel
theorem d_M_sign_23 : decode prog_10_method_5_code 23 = .ok (.iand, 1) := by decide +kernel
theorem d_M_sign_24 : decode prog_10_method_5_code 24 = .ok (.ireturn, 1) := by decide +kernel
def b_M_sign_10 (post : Int32 → zH → Prop) (l2 : Int32) (s0 : Int32) (h : zH) : Prop := post ((s0 >>> ((24 - (8 * (l2 &&& 3))) &&& 31)) &&& 255) h
def wp_M_sign (l0 : Int32) (l1 : Int32) (l2 : Int32) (h : zH) (post : Int32 → zH → Prop) : Prop := ((4 ≤ l2 → b_M_sign_10 post (l2) (l1) h) ∧ (¬ 4 ≤ l2 → b_M_sign_10 post (l2) (l0) h))
set_option maxRecDepth 100000 in
set_option maxHeartbeats 4000000 in
theorem w_M_sign_10 {l : Launch} {E : zE} {G : (Nat → Prop) → State → Prop} {p : Program} {e : Env} {s : State} {m : MethodId} {args : Array Value} {below : List Frame} {meth : Method} {c : Code} {A : Nat → Prop} {post : Int32 → zH → Prop} (hG : xGG E G) (C : zCx p s m args meth c E G A 0 0 prog_10_method_5_code 3 cn_M) (hr : meth.sig.returnType = (some .int))  (l2 : Int32) (s0 : Int32) (h : zH) (hw : b_M_sign_10 post l2 s0 h) : zGo p l e s m args below meth c E A 0 0 3 (zPi post) h 10 [none, none, some (.int l2)] [.int s0] := by
  unfold b_M_sign_10 at hw
  refine z_bipush C (v := 24) d_M_sign_10 (by decide) ?_
  refine z_bipush C (v := 8) d_M_sign_12 (by decide) ?_
  refine z_iload_n C (i := 2) d_M_sign_14 rfl rfl ?_
  refine z_iconst C (v := 3) d_M_sign_15 (by decide) ?_
  refine z_iand C d_M_sign_16 ?_
  refine z_imul C d_M_sign_17 ?_
  refine z_isub C d_M_sign_18 ?_
  refine z_ishr C d_M_sign_19 ?_
  refine z_sipush C (v := 255) d_M_sign_20 (by decide) ?_
  refine z_iand C d_M_sign_23 ?_
  exact z_iret C hr d_M_sign_24 hw
set_option maxRecDepth 100000 in
set_option maxHeartbeats 4000000 in
theorem t_M_sign {l : Launch} {E : zE} {G : (Nat → Prop) → State → Prop} (hG : xGG E G) {l0 : Int32} {l1 : Int32} {l2 : Int32} {h : zH} {post : Int32 → zH → Prop} (hw : wp_M_sign l0 l1 l2 h post) : Ct l xX E xcl xN zT G 0 0 y_M_sign prog_10_method_5_code 3 (some .int) [.int l0, .int l1, .int l2] h (zPi post) := by
  unfold wp_M_sign at hw
  refine Ct.of (by decide) (Nat.le_of_ble_eq_true rfl) ?_
  intro p e s m below meth c A C hr
  refine z_lv (lv2 := [some (.int l0), some (.int l1), some (.int l2)]) rfl ?_
  refine z_iload_n C (i := 2) d_M_sign_0 rfl rfl ?_
  refine z_iconst C (v := 4) d_M_sign_1 (by decide) ?_
  refine z_icmp_ge C (tgt := 9) d_M_sign_2 (by decide) (fun q => ?_) (fun q => ?_)
  · replace hw := hw.1 q
    refine z_iload_n C (i := 1) d_M_sign_9 rfl rfl ?_
    refine z_le (lv2 := [none, none, some (.int l2)]) (⟨rfl, trivial⟩) ?_
    exact w_M_sign_10 hG C hr _ _ _ hw
  · replace hw := hw.2 q
    refine z_iload_n C (i := 0) d_M_sign_5 rfl rfl ?_
    refine z_goto C (tgt := 10) d_M_sign_6 (by decide) ?_
    refine z_le (lv2 := [none, none, some (.int l2)]) (⟨rfl, trivial⟩) ?_
    exact w_M_sign_10 hG C hr _ _ _ hw
theorem d_M_feed_0 : decode prog_10_method_6_code 0 = .ok (.aload_n 0, 1) := by decide +kernel
theorem d_M_feed_1 : decode prog_10_method_6_code 1 = .ok (.iconst 0, 1) := by decide +kernel
theorem d_M_feed_2 : decode prog_10_method_6_code 2 = .ok (.putfield 68, 3) := by decide +kernel
theorem d_M_feed_5 : decode prog_10_method_6_code 5 = .ok (.iconst 0, 1) := by decide +kernel
theorem d_M_feed_6 : decode prog_10_method_6_code 6 = .ok (.istore_n 3, 1) := by decide +kernel
theorem d_M_feed_7 : decode prog_10_method_6_code 7 = .ok (.iconst 0, 1) := by decide +kernel
theorem d_M_feed_8 : decode prog_10_method_6_code 8 = .ok (.istore 4, 2) := by decide +kernel
theorem d_M_feed_10 : decode prog_10_method_6_code 10 = .ok (.iload 4, 2) := by decide +kernel
theorem d_M_feed_12 : decode prog_10_method_6_code 12 = .ok (.bipush (8), 2) := by decide +kernel
theorem d_M_feed_14 : decode prog_10_method_6_code 14 = .ok (.if_icmp .ge (52), 3) := by decide +kernel
theorem d_M_feed_17 : decode prog_10_method_6_code 17 = .ok (.iload_n 1, 1) := by decide +kernel
theorem d_M_feed_18 : decode prog_10_method_6_code 18 = .ok (.iload_n 2, 1) := by decide +kernel
theorem d_M_feed_19 : decode prog_10_method_6_code 19 = .ok (.iload 4, 2) := by decide +kernel
theorem d_M_feed_21 : decode prog_10_method_6_code 21 = .ok (.invokestatic 79, 3) := by decide +kernel
theorem d_M_feed_24 : decode prog_10_method_6_code 24 = .ok (.istore 5, 2) := by decide +kernel
theorem d_M_feed_26 : decode prog_10_method_6_code 26 = .ok (.iload 5, 2) := by decide +kernel
theorem d_M_feed_28 : decode prog_10_method_6_code 28 = .ok (.ifCond .eq (19), 3) := by decide +kernel
theorem d_M_feed_31 : decode prog_10_method_6_code 31 = .ok (.iload 5, 2) := by decide +kernel
theorem d_M_feed_33 : decode prog_10_method_6_code 33 = .ok (.bipush (32), 2) := by decide +kernel
theorem d_M_feed_35 : decode prog_10_method_6_code 35 = .ok (.if_icmp .lt (10), 3) := by decide +kernel
theorem d_M_feed_38 : decode prog_10_method_6_code 38 = .ok (.iload 5, 2) := by decide +kernel
theorem d_M_feed_40 : decode prog_10_method_6_code 40 = .ok (.bipush (126), 2) := by decide +kernel
theorem d_M_feed_42 : decode prog_10_method_6_code 42 = .ok (.if_icmp .le (5), 3) := by decide +kernel
theorem d_M_feed_45 : decode prog_10_method_6_code 45 = .ok (.iconst (-1), 1) := by decide +kernel
theorem d_M_feed_46 : decode prog_10_method_6_code 46 = .ok (.ireturn, 1) := by decide +kernel
theorem d_M_feed_47 : decode prog_10_method_6_code 47 = .ok (.iload_n 3, 1) := by decide +kernel
theorem d_M_feed_48 : decode prog_10_method_6_code 48 = .ok (.iload 5, 2) := by decide +kernel
theorem d_M_feed_50 : decode prog_10_method_6_code 50 = .ok (.ifCond .ne (7), 3) := by decide +kernel
theorem d_M_feed_53 : decode prog_10_method_6_code 53 = .ok (.iconst 0, 1) := by decide +kernel
theorem d_M_feed_54 : decode prog_10_method_6_code 54 = .ok (.goto (4), 3) := by decide +kernel
theorem d_M_feed_57 : decode prog_10_method_6_code 57 = .ok (.iconst 1, 1) := by decide +kernel
theorem d_M_feed_58 : decode prog_10_method_6_code 58 = .ok (.iadd, 1) := by decide +kernel
theorem d_M_feed_59 : decode prog_10_method_6_code 59 = .ok (.istore_n 3, 1) := by decide +kernel
theorem d_M_feed_60 : decode prog_10_method_6_code 60 = .ok (.iinc 4 (1), 3) := by decide +kernel
theorem d_M_feed_63 : decode prog_10_method_6_code 63 = .ok (.goto (-53), 3) := by decide +kernel
theorem d_M_feed_66 : decode prog_10_method_6_code 66 = .ok (.aload_n 0, 1) := by decide +kernel
theorem d_M_feed_67 : decode prog_10_method_6_code 67 = .ok (.getfield 83, 3) := by decide +kernel
theorem d_M_feed_70 : decode prog_10_method_6_code 70 = .ok (.iload_n 3, 1) := by decide +kernel
theorem d_M_feed_71 : decode prog_10_method_6_code 71 = .ok (.iadd, 1) := by decide +kernel
theorem d_M_feed_72 : decode prog_10_method_6_code 72 = .ok (.sipush (400), 3) := by decide +kernel
theorem d_M_feed_75 : decode prog_10_method_6_code 75 = .ok (.if_icmp .le (5), 3) := by decide +kernel
theorem d_M_feed_78 : decode prog_10_method_6_code 78 = .ok (.iconst (-1), 1) := by decide +kernel
theorem d_M_feed_79 : decode prog_10_method_6_code 79 = .ok (.ireturn, 1) := by decide +kernel
theorem d_M_feed_80 : decode prog_10_method_6_code 80 = .ok (.iconst 0, 1) := by decide +kernel
theorem d_M_feed_81 : decode prog_10_method_6_code 81 = .ok (.istore 4, 2) := by decide +kernel
theorem d_M_feed_83 : decode prog_10_method_6_code 83 = .ok (.iload 4, 2) := by decide +kernel
theorem d_M_feed_85 : decode prog_10_method_6_code 85 = .ok (.bipush (8), 2) := by decide +kernel
theorem d_M_feed_87 : decode prog_10_method_6_code 87 = .ok (.if_icmp .ge (47), 3) := by decide +kernel
theorem d_M_feed_90 : decode prog_10_method_6_code 90 = .ok (.iload_n 1, 1) := by decide +kernel
theorem d_M_feed_91 : decode prog_10_method_6_code 91 = .ok (.iload_n 2, 1) := by decide +kernel
theorem d_M_feed_92 : decode prog_10_method_6_code 92 = .ok (.iload 4, 2) := by decide +kernel
theorem d_M_feed_94 : decode prog_10_method_6_code 94 = .ok (.invokestatic 79, 3) := by decide +kernel
theorem d_M_feed_97 : decode prog_10_method_6_code 97 = .ok (.istore 5, 2) := by decide +kernel
theorem d_M_feed_99 : decode prog_10_method_6_code 99 = .ok (.iload 5, 2) := by decide +kernel
theorem d_M_feed_101 : decode prog_10_method_6_code 101 = .ok (.ifCond .ne (6), 3) := by decide +kernel
theorem d_M_feed_104 : decode prog_10_method_6_code 104 = .ok (.goto (24), 3) := by decide +kernel
theorem d_M_feed_107 : decode prog_10_method_6_code 107 = .ok (.aload_n 0, 1) := by decide +kernel
theorem d_M_feed_108 : decode prog_10_method_6_code 108 = .ok (.getfield 19, 3) := by decide +kernel
theorem d_M_feed_111 : decode prog_10_method_6_code 111 = .ok (.aload_n 0, 1) := by decide +kernel
theorem d_M_feed_112 : decode prog_10_method_6_code 112 = .ok (.getfield 83, 3) := by decide +kernel
theorem d_M_feed_115 : decode prog_10_method_6_code 115 = .ok (.iload 5, 2) := by decide +kernel
theorem d_M_feed_117 : decode prog_10_method_6_code 117 = .ok (.iastore, 1) := by decide +kernel
theorem d_M_feed_118 : decode prog_10_method_6_code 118 = .ok (.aload_n 0, 1) := by decide +kernel
theorem d_M_feed_119 : decode prog_10_method_6_code 119 = .ok (.dup, 1) := by decide +kernel
theorem d_M_feed_120 : decode prog_10_method_6_code 120 = .ok (.getfield 83, 3) := by decide +kernel
theorem d_M_feed_123 : decode prog_10_method_6_code 123 = .ok (.iconst 1, 1) := by decide +kernel
theorem d_M_feed_124 : decode prog_10_method_6_code 124 = .ok (.iadd, 1) := by decide +kernel
theorem d_M_feed_125 : decode prog_10_method_6_code 125 = .ok (.putfield 83, 3) := by decide +kernel
theorem d_M_feed_128 : decode prog_10_method_6_code 128 = .ok (.iinc 4 (1), 3) := by decide +kernel
theorem d_M_feed_131 : decode prog_10_method_6_code 131 = .ok (.goto (-48), 3) := by decide +kernel
theorem d_M_feed_134 : decode prog_10_method_6_code 134 = .ok (.aload_n 0, 1) := by decide +kernel
theorem d_M_feed_135 : decode prog_10_method_6_code 135 = .ok (.getfield 83, 3) := by decide +kernel
theorem d_M_feed_138 : decode prog_10_method_6_code 138 = .ok (.ireturn, 1) := by decide +kernel
def b_M_feed_45 (post : Int32 → zH → Prop) (h : zH) : Prop := post (-1) h
def b_M_feed_58 (post : Int32 → zH → Prop) (rc : Int32 → Int32 → Int32 → Int32 → zH → Prop) (l1 : Int32) (l2 : Int32) (l4 : Int32) (s0 : Int32) (s1 : Int32) (h : zH) : Prop := rc (l1) (l2) ((s1 + s0)) ((l4 + 1)) h
def b_M_feed_47 (post : Int32 → zH → Prop) (rc : Int32 → Int32 → Int32 → Int32 → zH → Prop) (l1 : Int32) (l2 : Int32) (l3 : Int32) (l4 : Int32) (l5 : Int32) (h : zH) : Prop := ((¬ l5 = 0 → b_M_feed_58 post rc (l1) (l2) (l4) (1) (l3) h) ∧ (l5 = 0 → b_M_feed_58 post rc (l1) (l2) (l4) (0) (l3) h))
def b_M_feed_128 (post : Int32 → zH → Prop) (rc : Int32 → Int32 → Int32 → zH → Prop) (l1 : Int32) (l2 : Int32) (l4 : Int32) (h : zH) : Prop := rc (l1) (l2) ((l4 + 1)) h
def b_M_feed_83 (post : Int32 → zH → Prop) : Nat → Int32 → Int32 → Int32 → zH → Prop
  | 0, _, _, _, _ => False
  | n + 1, l1, l2, l4, h => (fun rc : Int32 → Int32 → Int32 → zH → Prop => ((8 ≤ l4 → post (h.1 39 6) h) ∧ (¬ 8 ≤ l4 → wp_M_sign (l1) (l2) (l4) h (fun (r1 : Int32) (h2 : zH) => ((¬ r1 = 0 → (vp_in (h2.1 39 6) 400 ∧ ∀ h3 : zH, h3 = zi h2 43 ((h2.1 39 6) : Int32).toNatClampNeg r1 → (∀ h4 : zH, h4 = zi h3 39 6 ((h3.1 39 6) + 1) → b_M_feed_128 post rc (l1) (l2) (l4) h4))) ∧ (r1 = 0 → b_M_feed_128 post rc (l1) (l2) (l4) h2)))))) (b_M_feed_83 post n)
def b_M_feed_10 (post : Int32 → zH → Prop) : Nat → Int32 → Int32 → Int32 → Int32 → zH → Prop
  | 0, _, _, _, _, _ => False
  | n + 1, l1, l2, l3, l4, h => (fun rc : Int32 → Int32 → Int32 → Int32 → zH → Prop => ((8 ≤ l4 → ((((h.1 39 6) + l3) ≤ 400 → (∃ n : Nat, b_M_feed_83 post n (l1) (l2) (0) h)) ∧ (¬ ((h.1 39 6) + l3) ≤ 400 → post (-1) h))) ∧ (¬ 8 ≤ l4 → wp_M_sign (l1) (l2) (l4) h (fun (r5 : Int32) (h6 : zH) => ((r5 = 0 → b_M_feed_47 post rc (l1) (l2) (l3) (l4) (r5) h6) ∧ (¬ r5 = 0 → ((r5 < 32 → b_M_feed_45 post  h6) ∧ (¬ r5 < 32 → ((r5 ≤ 126 → b_M_feed_47 post rc (l1) (l2) (l3) (l4) (r5) h6) ∧ (¬ r5 ≤ 126 → b_M_feed_45 post  h6)))))))))) (b_M_feed_10 post n)
def wp_M_feed (l1 : Int32) (l2 : Int32) (h : zH) (post : Int32 → zH → Prop) : Prop := (∀ h7 : zH, h7 = zi h 39 0 0 → (∃ n : Nat, b_M_feed_10 post n (l1) (l2) (0) (0) h7))
set_option maxRecDepth 100000 in
set_option maxHeartbeats 4000000 in
theorem w_M_feed_45 {l : Launch} {E : zE} {G : (Nat → Prop) → State → Prop} {p : Program} {e : Env} {s : State} {m : MethodId} {args : Array Value} {below : List Frame} {meth : Method} {c : Code} {A : Nat → Prop} {post : Int32 → zH → Prop} (hG : xGG E G) (C : zCx p s m args meth c E G A 1 22 prog_10_method_6_code 6 cn_M) (hr : meth.sig.returnType = (some .int))  (h : zH) (hw : b_M_feed_45 post  h) : zGo p l e s m args below meth c E A 1 22 6 (zPi post) h 45 [none, none, none, none, none, none] [] := by
  unfold b_M_feed_45 at hw
  refine z_iconst C (v := (-1)) d_M_feed_45 (by decide) ?_
  exact z_iret C hr d_M_feed_46 hw
set_option maxRecDepth 100000 in
set_option maxHeartbeats 4000000 in
theorem w_M_feed_58 {l : Launch} {E : zE} {G : (Nat → Prop) → State → Prop} {p : Program} {e : Env} {s : State} {m : MethodId} {args : Array Value} {below : List Frame} {meth : Method} {c : Code} {A : Nat → Prop} {post : Int32 → zH → Prop} (hG : xGG E G) (C : zCx p s m args meth c E G A 1 22 prog_10_method_6_code 6 cn_M) (hr : meth.sig.returnType = (some .int)) {rc : Int32 → Int32 → Int32 → Int32 → zH → Prop} (hrc : ∀ (l1 : Int32) (l2 : Int32) (l3 : Int32) (l4 : Int32) (h : zH), rc l1 l2 l3 l4 h → zGo p l e s m args below meth c E A 1 22 6 (zPi post) h 10 [some (.ref (E.2.2.1 39)), some (.int l1), some (.int l2), some (.int l3), some (.int l4), none] []) (l1 : Int32) (l2 : Int32) (l4 : Int32) (s0 : Int32) (s1 : Int32) (h : zH) (hw : b_M_feed_58 post rc l1 l2 l4 s0 s1 h) : zGo p l e s m args below meth c E A 1 22 6 (zPi post) h 58 [some (.ref (E.2.2.1 39)), some (.int l1), some (.int l2), none, some (.int l4), none] [.int s0, .int s1] := by
  unfold b_M_feed_58 at hw
  refine z_iadd C d_M_feed_58 ?_
  refine z_istore_n C (i := 3) d_M_feed_59 rfl (by decide) rfl ?_
  refine z_iinc C (v := l4 + 1) d_M_feed_60 rfl rfl (by decide) rfl ?_
  refine z_goto C (tgt := 10) d_M_feed_63 (by decide) ?_
  refine z_le (lv2 := [some (.ref (E.2.2.1 39)), some (.int l1), some (.int l2), some (.int (s1 + s0)), some (.int (l4 + 1)), none]) (⟨rfl, ⟨rfl, ⟨rfl, ⟨rfl, ⟨rfl, trivial⟩⟩⟩⟩⟩) ?_
  exact hrc _ _ _ _ _ hw
set_option maxRecDepth 100000 in
set_option maxHeartbeats 4000000 in
theorem w_M_feed_47 {l : Launch} {E : zE} {G : (Nat → Prop) → State → Prop} {p : Program} {e : Env} {s : State} {m : MethodId} {args : Array Value} {below : List Frame} {meth : Method} {c : Code} {A : Nat → Prop} {post : Int32 → zH → Prop} (hG : xGG E G) (C : zCx p s m args meth c E G A 1 22 prog_10_method_6_code 6 cn_M) (hr : meth.sig.returnType = (some .int)) {rc : Int32 → Int32 → Int32 → Int32 → zH → Prop} (hrc : ∀ (l1 : Int32) (l2 : Int32) (l3 : Int32) (l4 : Int32) (h : zH), rc l1 l2 l3 l4 h → zGo p l e s m args below meth c E A 1 22 6 (zPi post) h 10 [some (.ref (E.2.2.1 39)), some (.int l1), some (.int l2), some (.int l3), some (.int l4), none] []) (l1 : Int32) (l2 : Int32) (l3 : Int32) (l4 : Int32) (l5 : Int32) (h : zH) (hw : b_M_feed_47 post rc l1 l2 l3 l4 l5 h) : zGo p l e s m args below meth c E A 1 22 6 (zPi post) h 47 [some (.ref (E.2.2.1 39)), some (.int l1), some (.int l2), some (.int l3), some (.int l4), some (.int l5)] [] := by
  unfold b_M_feed_47 at hw
  refine z_iload_n C (i := 3) d_M_feed_47 rfl rfl ?_
  refine z_iload C d_M_feed_48 rfl ?_
  refine z_if_ne C (tgt := 57) d_M_feed_50 (by decide) (fun q => ?_) (fun q => ?_)
  · replace hw := hw.1 q
    refine z_iconst C (v := 1) d_M_feed_57 (by decide) ?_
    refine z_le (lv2 := [some (.ref (E.2.2.1 39)), some (.int l1), some (.int l2), none, some (.int l4), none]) (⟨rfl, ⟨rfl, ⟨rfl, ⟨rfl, trivial⟩⟩⟩⟩) ?_
    exact w_M_feed_58 hG C hr hrc _ _ _ _ _ _ hw
  · replace hw := hw.2 q
    refine z_iconst C (v := 0) d_M_feed_53 (by decide) ?_
    refine z_goto C (tgt := 58) d_M_feed_54 (by decide) ?_
    refine z_le (lv2 := [some (.ref (E.2.2.1 39)), some (.int l1), some (.int l2), none, some (.int l4), none]) (⟨rfl, ⟨rfl, ⟨rfl, ⟨rfl, trivial⟩⟩⟩⟩) ?_
    exact w_M_feed_58 hG C hr hrc _ _ _ _ _ _ hw
set_option maxRecDepth 100000 in
set_option maxHeartbeats 4000000 in
theorem w_M_feed_128 {l : Launch} {E : zE} {G : (Nat → Prop) → State → Prop} {p : Program} {e : Env} {s : State} {m : MethodId} {args : Array Value} {below : List Frame} {meth : Method} {c : Code} {A : Nat → Prop} {post : Int32 → zH → Prop} (hG : xGG E G) (C : zCx p s m args meth c E G A 1 22 prog_10_method_6_code 6 cn_M) (hr : meth.sig.returnType = (some .int)) {rc : Int32 → Int32 → Int32 → zH → Prop} (hrc : ∀ (l1 : Int32) (l2 : Int32) (l4 : Int32) (h : zH), rc l1 l2 l4 h → zGo p l e s m args below meth c E A 1 22 6 (zPi post) h 83 [some (.ref (E.2.2.1 39)), some (.int l1), some (.int l2), none, some (.int l4), none] []) (l1 : Int32) (l2 : Int32) (l4 : Int32) (h : zH) (hw : b_M_feed_128 post rc l1 l2 l4 h) : zGo p l e s m args below meth c E A 1 22 6 (zPi post) h 128 [some (.ref (E.2.2.1 39)), some (.int l1), some (.int l2), none, some (.int l4), none] [] := by
  unfold b_M_feed_128 at hw
  refine z_iinc C (v := l4 + 1) d_M_feed_128 rfl rfl (by decide) rfl ?_
  refine z_goto C (tgt := 83) d_M_feed_131 (by decide) ?_
  refine z_le (lv2 := [some (.ref (E.2.2.1 39)), some (.int l1), some (.int l2), none, some (.int (l4 + 1)), none]) (⟨rfl, ⟨rfl, ⟨rfl, ⟨rfl, trivial⟩⟩⟩⟩) ?_
  exact hrc _ _ _ _ hw
set_option maxRecDepth 100000 in
set_option maxHeartbeats 4000000 in
theorem w_M_feed_83 {l : Launch} {E : zE} {G : (Nat → Prop) → State → Prop} {p : Program} {e : Env} {s : State} {m : MethodId} {args : Array Value} {below : List Frame} {meth : Method} {c : Code} {A : Nat → Prop} {post : Int32 → zH → Prop} (hG : xGG E G) (C : zCx p s m args meth c E G A 1 22 prog_10_method_6_code 6 cn_M) (hr : meth.sig.returnType = (some .int)) : ∀ (n : Nat) (l1 : Int32) (l2 : Int32) (l4 : Int32) (h : zH), b_M_feed_83 post n l1 l2 l4 h → zGo p l e s m args below meth c E A 1 22 6 (zPi post) h 83 [some (.ref (E.2.2.1 39)), some (.int l1), some (.int l2), none, some (.int l4), none] [] := by
  intro n
  induction n with
  | zero => intro l1 l2 l4 h hw; exact False.elim hw
  | succ n hrc =>
    intro l1 l2 l4 h hw
    unfold b_M_feed_83 at hw
    refine z_iload C d_M_feed_83 rfl ?_
    refine z_bipush C (v := 8) d_M_feed_85 (by decide) ?_
    refine z_icmp_ge C (tgt := 134) d_M_feed_87 (by decide) (fun q => ?_) (fun q => ?_)
    · replace hw := hw.1 q
      refine z_aload_n C (i := 0) d_M_feed_134 rfl rfl ?_
      refine z_getI C (ci := 8) (j := 6) (F := cf_M) (by decide) rfl rfl in_M (by decide) fl_M_83 rfl d_M_feed_135 ?_
      exact z_iret C hr d_M_feed_138 hw
    · replace hw := hw.2 q
      refine z_iload_n C (i := 1) d_M_feed_90 rfl rfl ?_
      refine z_iload_n C (i := 2) d_M_feed_91 rfl rfl ?_
      refine z_iload C d_M_feed_92 rfl ?_
      refine z_callSi ⟨xN_ok, hG.1⟩ zT_good C (t_M_sign hG hw) ol_M_79 (by decide) (by decide) pl_M_sign rfl rfl (Nat.le_of_ble_eq_true rfl) d_M_feed_94 (fun r1 h2 hw => ?_)
      refine z_istore C d_M_feed_97 (by decide) rfl ?_
      refine z_iload C d_M_feed_99 rfl ?_
      refine z_if_ne C (tgt := 107) d_M_feed_101 (by decide) (fun q => ?_) (fun q => ?_)
      · replace hw := hw.1 q
        refine z_aload_n C (i := 0) d_M_feed_107 rfl rfl ?_
        refine z_getS C (ci := 8) (j := 5) (F := cf_M) (by decide) rfl rfl in_M (by decide) fl_M_19 rfl d_M_feed_108 ?_
        refine z_aload_n C (i := 0) d_M_feed_111 rfl rfl ?_
        refine z_getI C (ci := 8) (j := 6) (F := cf_M) (by decide) rfl rfl in_M (by decide) fl_M_83 rfl d_M_feed_112 ?_
        refine z_iload C d_M_feed_115 rfl ?_
        refine z_iast C (by decide) rfl hw.1 d_M_feed_117 (fun h3 eh3 => ?_)
        replace hw := hw.2 h3 eh3
        refine z_aload_n C (i := 0) d_M_feed_118 rfl rfl ?_
        refine z_dup C d_M_feed_119 rfl ?_
        refine z_getI C (ci := 8) (j := 6) (F := cf_M) (by decide) rfl rfl in_M (by decide) fl_M_83 rfl d_M_feed_120 ?_
        refine z_iconst C (v := 1) d_M_feed_123 (by decide) ?_
        refine z_iadd C d_M_feed_124 ?_
        refine z_putI C (ci := 8) (j := 6) (F := cf_M) ct_M (by decide) rfl rfl in_M ty_M nm_M (by decide) fl_M_83 rfl (by decide +kernel) rfl d_M_feed_125 (fun h4 eh4 => ?_)
        replace hw := hw h4 eh4
        refine z_le (lv2 := [some (.ref (E.2.2.1 39)), some (.int l1), some (.int l2), none, some (.int l4), none]) (⟨rfl, ⟨rfl, ⟨rfl, ⟨rfl, trivial⟩⟩⟩⟩) ?_
        exact w_M_feed_128 hG C hr hrc _ _ _ _ hw
      · replace hw := hw.2 q
        refine z_goto C (tgt := 128) d_M_feed_104 (by decide) ?_
        refine z_le (lv2 := [some (.ref (E.2.2.1 39)), some (.int l1), some (.int l2), none, some (.int l4), none]) (⟨rfl, ⟨rfl, ⟨rfl, ⟨rfl, trivial⟩⟩⟩⟩) ?_
        exact w_M_feed_128 hG C hr hrc _ _ _ _ hw
set_option maxRecDepth 100000 in
set_option maxHeartbeats 4000000 in
theorem w_M_feed_10 {l : Launch} {E : zE} {G : (Nat → Prop) → State → Prop} {p : Program} {e : Env} {s : State} {m : MethodId} {args : Array Value} {below : List Frame} {meth : Method} {c : Code} {A : Nat → Prop} {post : Int32 → zH → Prop} (hG : xGG E G) (C : zCx p s m args meth c E G A 1 22 prog_10_method_6_code 6 cn_M) (hr : meth.sig.returnType = (some .int)) : ∀ (n : Nat) (l1 : Int32) (l2 : Int32) (l3 : Int32) (l4 : Int32) (h : zH), b_M_feed_10 post n l1 l2 l3 l4 h → zGo p l e s m args below meth c E A 1 22 6 (zPi post) h 10 [some (.ref (E.2.2.1 39)), some (.int l1), some (.int l2), some (.int l3), some (.int l4), none] [] := by
  intro n
  induction n with
  | zero => intro l1 l2 l3 l4 h hw; exact False.elim hw
  | succ n hrc =>
    intro l1 l2 l3 l4 h hw
    unfold b_M_feed_10 at hw
    refine z_iload C d_M_feed_10 rfl ?_
    refine z_bipush C (v := 8) d_M_feed_12 (by decide) ?_
    refine z_icmp_ge C (tgt := 66) d_M_feed_14 (by decide) (fun q => ?_) (fun q => ?_)
    · replace hw := hw.1 q
      refine z_aload_n C (i := 0) d_M_feed_66 rfl rfl ?_
      refine z_getI C (ci := 8) (j := 6) (F := cf_M) (by decide) rfl rfl in_M (by decide) fl_M_83 rfl d_M_feed_67 ?_
      refine z_iload_n C (i := 3) d_M_feed_70 rfl rfl ?_
      refine z_iadd C d_M_feed_71 ?_
      refine z_sipush C (v := 400) d_M_feed_72 (by decide) ?_
      refine z_icmp_le C (tgt := 80) d_M_feed_75 (by decide) (fun q => ?_) (fun q => ?_)
      · replace hw := hw.1 q
        refine z_iconst C (v := 0) d_M_feed_80 (by decide) ?_
        refine z_istore C d_M_feed_81 (by decide) rfl ?_
        refine z_le (lv2 := [some (.ref (E.2.2.1 39)), some (.int l1), some (.int l2), none, some (.int 0), none]) (⟨rfl, ⟨rfl, ⟨rfl, ⟨rfl, trivial⟩⟩⟩⟩) ?_
        obtain ⟨n, hw⟩ := hw
        exact w_M_feed_83 hG C hr n _ _ _ _ hw
      · replace hw := hw.2 q
        refine z_iconst C (v := (-1)) d_M_feed_78 (by decide) ?_
        exact z_iret C hr d_M_feed_79 hw
    · replace hw := hw.2 q
      refine z_iload_n C (i := 1) d_M_feed_17 rfl rfl ?_
      refine z_iload_n C (i := 2) d_M_feed_18 rfl rfl ?_
      refine z_iload C d_M_feed_19 rfl ?_
      refine z_callSi ⟨xN_ok, hG.1⟩ zT_good C (t_M_sign hG hw) ol_M_79 (by decide) (by decide) pl_M_sign rfl rfl (Nat.le_of_ble_eq_true rfl) d_M_feed_21 (fun r5 h6 hw => ?_)
      refine z_istore C d_M_feed_24 (by decide) rfl ?_
      refine z_iload C d_M_feed_26 rfl ?_
      refine z_if_eq C (tgt := 47) d_M_feed_28 (by decide) (fun q => ?_) (fun q => ?_)
      · replace hw := hw.1 q
        refine z_le (lv2 := [some (.ref (E.2.2.1 39)), some (.int l1), some (.int l2), some (.int l3), some (.int l4), some (.int r5)]) (⟨rfl, ⟨rfl, ⟨rfl, ⟨rfl, ⟨rfl, ⟨rfl, trivial⟩⟩⟩⟩⟩⟩) ?_
        exact w_M_feed_47 hG C hr hrc _ _ _ _ _ _ hw
      · replace hw := hw.2 q
        refine z_iload C d_M_feed_31 rfl ?_
        refine z_bipush C (v := 32) d_M_feed_33 (by decide) ?_
        refine z_icmp_lt C (tgt := 45) d_M_feed_35 (by decide) (fun q => ?_) (fun q => ?_)
        · replace hw := hw.1 q
          refine z_le (lv2 := [none, none, none, none, none, none]) (trivial) ?_
          exact w_M_feed_45 hG C hr  _ hw
        · replace hw := hw.2 q
          refine z_iload C d_M_feed_38 rfl ?_
          refine z_bipush C (v := 126) d_M_feed_40 (by decide) ?_
          refine z_icmp_le C (tgt := 47) d_M_feed_42 (by decide) (fun q => ?_) (fun q => ?_)
          · replace hw := hw.1 q
            refine z_le (lv2 := [some (.ref (E.2.2.1 39)), some (.int l1), some (.int l2), some (.int l3), some (.int l4), some (.int r5)]) (⟨rfl, ⟨rfl, ⟨rfl, ⟨rfl, ⟨rfl, ⟨rfl, trivial⟩⟩⟩⟩⟩⟩) ?_
            exact w_M_feed_47 hG C hr hrc _ _ _ _ _ _ hw
          · replace hw := hw.2 q
            refine z_le (lv2 := [none, none, none, none, none, none]) (trivial) ?_
            exact w_M_feed_45 hG C hr  _ hw
set_option maxRecDepth 100000 in
set_option maxHeartbeats 4000000 in
theorem t_M_feed {l : Launch} {E : zE} {G : (Nat → Prop) → State → Prop} (hG : xGG E G) {l1 : Int32} {l2 : Int32} {h : zH} {post : Int32 → zH → Prop} (hw : wp_M_feed l1 l2 h post) : Ct l xX E xcl xN zT G 1 22 y_M_feed prog_10_method_6_code 6 (some .int) [.ref (E.2.2.1 39), .int l1, .int l2] h (zPi post) := by
  unfold wp_M_feed at hw
  refine Ct.of (by decide) (Nat.le_of_ble_eq_true rfl) ?_
  intro p e s m below meth c A C hr
  refine z_lv (lv2 := [some (.ref (E.2.2.1 39)), some (.int l1), some (.int l2), none, none, none]) rfl ?_
  refine z_aload_n C (i := 0) d_M_feed_0 rfl rfl ?_
  refine z_iconst C (v := 0) d_M_feed_1 (by decide) ?_
  refine z_putI C (ci := 8) (j := 0) (F := cf_M) ct_M (by decide) rfl rfl in_M ty_M nm_M (by decide) fl_M_68 rfl (by decide +kernel) rfl d_M_feed_2 (fun h7 eh7 => ?_)
  replace hw := hw h7 eh7
  refine z_iconst C (v := 0) d_M_feed_5 (by decide) ?_
  refine z_istore_n C (i := 3) d_M_feed_6 rfl (by decide) rfl ?_
  refine z_iconst C (v := 0) d_M_feed_7 (by decide) ?_
  refine z_istore C d_M_feed_8 (by decide) rfl ?_
  refine z_le (lv2 := [some (.ref (E.2.2.1 39)), some (.int l1), some (.int l2), some (.int 0), some (.int 0), none]) (⟨rfl, ⟨rfl, ⟨rfl, ⟨rfl, ⟨rfl, trivial⟩⟩⟩⟩⟩) ?_
  obtain ⟨n, hw⟩ := hw
  exact w_M_feed_10 hG C hr n _ _ _ _ _ hw
theorem d_M_give_0 : decode prog_10_method_4_code 0 = .ok (.aload_n 0, 1) := by decide +kernel
theorem d_M_give_1 : decode prog_10_method_4_code 1 = .ok (.iconst 0, 1) := by decide +kernel
theorem d_M_give_2 : decode prog_10_method_4_code 2 = .ok (.putfield 68, 3) := by decide +kernel
theorem d_M_give_5 : decode prog_10_method_4_code 5 = .ok (.iload_n 1, 1) := by decide +kernel
theorem d_M_give_6 : decode prog_10_method_4_code 6 = .ok (.ifCond .lt (31), 3) := by decide +kernel
theorem d_M_give_9 : decode prog_10_method_4_code 9 = .ok (.iload_n 1, 1) := by decide +kernel
theorem d_M_give_10 : decode prog_10_method_4_code 10 = .ok (.aload_n 0, 1) := by decide +kernel
theorem d_M_give_11 : decode prog_10_method_4_code 11 = .ok (.getfield 72, 3) := by decide +kernel
theorem d_M_give_14 : decode prog_10_method_4_code 14 = .ok (.if_icmp .ge (23), 3) := by decide +kernel
theorem d_M_give_17 : decode prog_10_method_4_code 17 = .ok (.iload_n 2, 1) := by decide +kernel
theorem d_M_give_18 : decode prog_10_method_4_code 18 = .ok (.aload_n 0, 1) := by decide +kernel
theorem d_M_give_19 : decode prog_10_method_4_code 19 = .ok (.getfield 7, 3) := by decide +kernel
theorem d_M_give_22 : decode prog_10_method_4_code 22 = .ok (.iload_n 1, 1) := by decide +kernel
theorem d_M_give_23 : decode prog_10_method_4_code 23 = .ok (.iaload, 1) := by decide +kernel
theorem d_M_give_24 : decode prog_10_method_4_code 24 = .ok (.if_icmp .lt (13), 3) := by decide +kernel
theorem d_M_give_27 : decode prog_10_method_4_code 27 = .ok (.iload_n 2, 1) := by decide +kernel
theorem d_M_give_28 : decode prog_10_method_4_code 28 = .ok (.aload_n 0, 1) := by decide +kernel
theorem d_M_give_29 : decode prog_10_method_4_code 29 = .ok (.getfield 13, 3) := by decide +kernel
theorem d_M_give_32 : decode prog_10_method_4_code 32 = .ok (.iload_n 1, 1) := by decide +kernel
theorem d_M_give_33 : decode prog_10_method_4_code 33 = .ok (.iaload, 1) := by decide +kernel
theorem d_M_give_34 : decode prog_10_method_4_code 34 = .ok (.if_icmp .le (5), 3) := by decide +kernel
theorem d_M_give_37 : decode prog_10_method_4_code 37 = .ok (.iconst 0, 1) := by decide +kernel
theorem d_M_give_38 : decode prog_10_method_4_code 38 = .ok (.ireturn, 1) := by decide +kernel
theorem d_M_give_39 : decode prog_10_method_4_code 39 = .ok (.aload_n 0, 1) := by decide +kernel
theorem d_M_give_40 : decode prog_10_method_4_code 40 = .ok (.getfield 16, 3) := by decide +kernel
theorem d_M_give_43 : decode prog_10_method_4_code 43 = .ok (.iload_n 1, 1) := by decide +kernel
theorem d_M_give_44 : decode prog_10_method_4_code 44 = .ok (.iload_n 2, 1) := by decide +kernel
theorem d_M_give_45 : decode prog_10_method_4_code 45 = .ok (.iastore, 1) := by decide +kernel
theorem d_M_give_46 : decode prog_10_method_4_code 46 = .ok (.iconst 1, 1) := by decide +kernel
theorem d_M_give_47 : decode prog_10_method_4_code 47 = .ok (.ireturn, 1) := by decide +kernel
def b_M_give_37 (post : Int32 → zH → Prop) (h : zH) : Prop := post 0 h
def wp_M_give (l1 : Int32) (l2 : Int32) (h : zH) (post : Int32 → zH → Prop) : Prop := (∀ h1 : zH, h1 = zi h 39 0 0 → ((l1 < 0 → b_M_give_37 post  h1) ∧ (¬ l1 < 0 → (((h1.1 39 1) ≤ l1 → b_M_give_37 post  h1) ∧ (¬ (h1.1 39 1) ≤ l1 → (vp_in l1 20 ∧ ((l2 < (h1.1 40 (l1 : Int32).toNatClampNeg) → b_M_give_37 post  h1) ∧ (¬ l2 < (h1.1 40 (l1 : Int32).toNatClampNeg) → (vp_in l1 20 ∧ ((l2 ≤ (h1.1 41 (l1 : Int32).toNatClampNeg) → (vp_in l1 20 ∧ ∀ h2 : zH, h2 = zi h1 42 (l1 : Int32).toNatClampNeg l2 → post 1 h2)) ∧ (¬ l2 ≤ (h1.1 41 (l1 : Int32).toNatClampNeg) → b_M_give_37 post  h1)))))))))))
set_option maxRecDepth 100000 in
set_option maxHeartbeats 4000000 in
theorem w_M_give_37 {l : Launch} {E : zE} {G : (Nat → Prop) → State → Prop} {p : Program} {e : Env} {s : State} {m : MethodId} {args : Array Value} {below : List Frame} {meth : Method} {c : Code} {A : Nat → Prop} {post : Int32 → zH → Prop} (hG : xGG E G) (C : zCx p s m args meth c E G A 0 0 prog_10_method_4_code 3 cn_M) (hr : meth.sig.returnType = (some .boolean))  (h : zH) (hw : b_M_give_37 post  h) : zGo p l e s m args below meth c E A 0 0 3 (zPi post) h 37 [none, none, none] [] := by
  unfold b_M_give_37 at hw
  refine z_iconst C (v := 0) d_M_give_37 (by decide) ?_
  exact z_zret C hr rfl d_M_give_38 hw
set_option maxRecDepth 100000 in
set_option maxHeartbeats 4000000 in
theorem t_M_give {l : Launch} {E : zE} {G : (Nat → Prop) → State → Prop} (hG : xGG E G) {l1 : Int32} {l2 : Int32} {h : zH} {post : Int32 → zH → Prop} (hw : wp_M_give l1 l2 h post) : Ct l xX E xcl xN zT G 0 0 y_M_give prog_10_method_4_code 3 (some .boolean) [.ref (E.2.2.1 39), .int l1, .int l2] h (zPi post) := by
  unfold wp_M_give at hw
  refine Ct.of (by decide) (Nat.le_of_ble_eq_true rfl) ?_
  intro p e s m below meth c A C hr
  refine z_lv (lv2 := [some (.ref (E.2.2.1 39)), some (.int l1), some (.int l2)]) rfl ?_
  refine z_aload_n C (i := 0) d_M_give_0 rfl rfl ?_
  refine z_iconst C (v := 0) d_M_give_1 (by decide) ?_
  refine z_putI C (ci := 8) (j := 0) (F := cf_M) ct_M (by decide) rfl rfl in_M ty_M nm_M (by decide) fl_M_68 rfl (by decide +kernel) rfl d_M_give_2 (fun h1 eh1 => ?_)
  replace hw := hw h1 eh1
  refine z_iload_n C (i := 1) d_M_give_5 rfl rfl ?_
  refine z_if_lt C (tgt := 37) d_M_give_6 (by decide) (fun q => ?_) (fun q => ?_)
  · replace hw := hw.1 q
    refine z_le (lv2 := [none, none, none]) (trivial) ?_
    exact w_M_give_37 hG C hr  _ hw
  · replace hw := hw.2 q
    refine z_iload_n C (i := 1) d_M_give_9 rfl rfl ?_
    refine z_aload_n C (i := 0) d_M_give_10 rfl rfl ?_
    refine z_getI C (ci := 8) (j := 1) (F := cf_M) (by decide) rfl rfl in_M (by decide) fl_M_72 rfl d_M_give_11 ?_
    refine z_icmp_ge C (tgt := 37) d_M_give_14 (by decide) (fun q => ?_) (fun q => ?_)
    · replace hw := hw.1 q
      refine z_le (lv2 := [none, none, none]) (trivial) ?_
      exact w_M_give_37 hG C hr  _ hw
    · replace hw := hw.2 q
      refine z_iload_n C (i := 2) d_M_give_17 rfl rfl ?_
      refine z_aload_n C (i := 0) d_M_give_18 rfl rfl ?_
      refine z_getS C (ci := 8) (j := 2) (F := cf_M) (by decide) rfl rfl in_M (by decide) fl_M_7 rfl d_M_give_19 ?_
      refine z_iload_n C (i := 1) d_M_give_22 rfl rfl ?_
      refine z_iald C (by decide) rfl hw.1 d_M_give_23 ?_
      replace hw := hw.2
      refine z_icmp_lt C (tgt := 37) d_M_give_24 (by decide) (fun q => ?_) (fun q => ?_)
      · replace hw := hw.1 q
        refine z_le (lv2 := [none, none, none]) (trivial) ?_
        exact w_M_give_37 hG C hr  _ hw
      · replace hw := hw.2 q
        refine z_iload_n C (i := 2) d_M_give_27 rfl rfl ?_
        refine z_aload_n C (i := 0) d_M_give_28 rfl rfl ?_
        refine z_getS C (ci := 8) (j := 3) (F := cf_M) (by decide) rfl rfl in_M (by decide) fl_M_13 rfl d_M_give_29 ?_
        refine z_iload_n C (i := 1) d_M_give_32 rfl rfl ?_
        refine z_iald C (by decide) rfl hw.1 d_M_give_33 ?_
        replace hw := hw.2
        refine z_icmp_le C (tgt := 39) d_M_give_34 (by decide) (fun q => ?_) (fun q => ?_)
        · replace hw := hw.1 q
          refine z_aload_n C (i := 0) d_M_give_39 rfl rfl ?_
          refine z_getS C (ci := 8) (j := 4) (F := cf_M) (by decide) rfl rfl in_M (by decide) fl_M_16 rfl d_M_give_40 ?_
          refine z_iload_n C (i := 1) d_M_give_43 rfl rfl ?_
          refine z_iload_n C (i := 2) d_M_give_44 rfl rfl ?_
          refine z_iast C (by decide) rfl hw.1 d_M_give_45 (fun h2 eh2 => ?_)
          replace hw := hw.2 h2 eh2
          refine z_iconst C (v := 1) d_M_give_46 (by decide) ?_
          exact z_zret C hr rfl d_M_give_47 hw
        · replace hw := hw.2 q
          refine z_le (lv2 := [none, none, none]) (trivial) ?_
          exact w_M_give_37 hG C hr  _ hw
theorem d_M_termEnds_0 : decode prog_10_method_28_code 0 = .ok (.aload_n 0, 1) := by decide +kernel
theorem d_M_termEnds_1 : decode prog_10_method_28_code 1 = .ok (.iconst 1, 1) := by decide +kernel
theorem d_M_termEnds_2 : decode prog_10_method_28_code 2 = .ok (.invokevirtual 184, 3) := by decide +kernel
theorem d_M_termEnds_5 : decode prog_10_method_28_code 5 = .ok (.aload_n 0, 1) := by decide +kernel
theorem d_M_termEnds_6 : decode prog_10_method_28_code 6 = .ok (.getfield 118, 3) := by decide +kernel
theorem d_M_termEnds_9 : decode prog_10_method_28_code 9 = .ok (.ifCond .ne (48), 3) := by decide +kernel
theorem d_M_termEnds_12 : decode prog_10_method_28_code 12 = .ok (.aload_n 0, 1) := by decide +kernel
theorem d_M_termEnds_13 : decode prog_10_method_28_code 13 = .ok (.invokevirtual 175, 3) := by decide +kernel
theorem d_M_termEnds_16 : decode prog_10_method_28_code 16 = .ok (.bipush (101), 2) := by decide +kernel
theorem d_M_termEnds_18 : decode prog_10_method_28_code 18 = .ok (.if_icmp .ne (39), 3) := by decide +kernel
theorem d_M_termEnds_21 : decode prog_10_method_28_code 21 = .ok (.aload_n 0, 1) := by decide +kernel
theorem d_M_termEnds_22 : decode prog_10_method_28_code 22 = .ok (.dup, 1) := by decide +kernel
theorem d_M_termEnds_23 : decode prog_10_method_28_code 23 = .ok (.getfield 128, 3) := by decide +kernel
theorem d_M_termEnds_26 : decode prog_10_method_28_code 26 = .ok (.iconst 1, 1) := by decide +kernel
theorem d_M_termEnds_27 : decode prog_10_method_28_code 27 = .ok (.isub, 1) := by decide +kernel
theorem d_M_termEnds_28 : decode prog_10_method_28_code 28 = .ok (.putfield 128, 3) := by decide +kernel
theorem d_M_termEnds_31 : decode prog_10_method_28_code 31 = .ok (.aload_n 0, 1) := by decide +kernel
theorem d_M_termEnds_32 : decode prog_10_method_28_code 32 = .ok (.dup, 1) := by decide +kernel
theorem d_M_termEnds_33 : decode prog_10_method_28_code 33 = .ok (.getfield 131, 3) := by decide +kernel
theorem d_M_termEnds_36 : decode prog_10_method_28_code 36 = .ok (.iconst 1, 1) := by decide +kernel
theorem d_M_termEnds_37 : decode prog_10_method_28_code 37 = .ok (.isub, 1) := by decide +kernel
theorem d_M_termEnds_38 : decode prog_10_method_28_code 38 = .ok (.putfield 131, 3) := by decide +kernel
theorem d_M_termEnds_41 : decode prog_10_method_28_code 41 = .ok (.aload_n 0, 1) := by decide +kernel
theorem d_M_termEnds_42 : decode prog_10_method_28_code 42 = .ok (.aload_n 0, 1) := by decide +kernel
theorem d_M_termEnds_43 : decode prog_10_method_28_code 43 = .ok (.getfield 56, 3) := by decide +kernel
theorem d_M_termEnds_46 : decode prog_10_method_28_code 46 = .ok (.aload_n 0, 1) := by decide +kernel
theorem d_M_termEnds_47 : decode prog_10_method_28_code 47 = .ok (.getfield 128, 3) := by decide +kernel
theorem d_M_termEnds_50 : decode prog_10_method_28_code 50 = .ok (.iaload, 1) := by decide +kernel
theorem d_M_termEnds_51 : decode prog_10_method_28_code 51 = .ok (.invokevirtual 187, 3) := by decide +kernel
theorem d_M_termEnds_54 : decode prog_10_method_28_code 54 = .ok (.goto (-49), 3) := by decide +kernel
theorem d_M_termEnds_57 : decode prog_10_method_28_code 57 = .ok (.aload_n 0, 1) := by decide +kernel
theorem d_M_termEnds_58 : decode prog_10_method_28_code 58 = .ok (.invokevirtual 175, 3) := by decide +kernel
theorem d_M_termEnds_61 : decode prog_10_method_28_code 61 = .ok (.istore_n 1, 1) := by decide +kernel
theorem d_M_termEnds_62 : decode prog_10_method_28_code 62 = .ok (.aload_n 0, 1) := by decide +kernel
theorem d_M_termEnds_63 : decode prog_10_method_28_code 63 = .ok (.getfield 118, 3) := by decide +kernel
theorem d_M_termEnds_66 : decode prog_10_method_28_code 66 = .ok (.ifCond .gt (19), 3) := by decide +kernel
theorem d_M_termEnds_69 : decode prog_10_method_28_code 69 = .ok (.iload_n 1, 1) := by decide +kernel
theorem d_M_termEnds_70 : decode prog_10_method_28_code 70 = .ok (.iconst 4, 1) := by decide +kernel
theorem d_M_termEnds_71 : decode prog_10_method_28_code 71 = .ok (.if_icmp .eq (15), 3) := by decide +kernel
theorem d_M_termEnds_74 : decode prog_10_method_28_code 74 = .ok (.iload_n 1, 1) := by decide +kernel
theorem d_M_termEnds_75 : decode prog_10_method_28_code 75 = .ok (.iconst 5, 1) := by decide +kernel
theorem d_M_termEnds_76 : decode prog_10_method_28_code 76 = .ok (.if_icmp .eq (10), 3) := by decide +kernel
theorem d_M_termEnds_79 : decode prog_10_method_28_code 79 = .ok (.iload_n 1, 1) := by decide +kernel
theorem d_M_termEnds_80 : decode prog_10_method_28_code 80 = .ok (.bipush (6), 2) := by decide +kernel
theorem d_M_termEnds_82 : decode prog_10_method_28_code 82 = .ok (.if_icmp .eq (4), 3) := by decide +kernel
theorem d_M_termEnds_85 : decode prog_10_method_28_code 85 = .ok (.return_, 1) := by decide +kernel
theorem d_M_termEnds_86 : decode prog_10_method_28_code 86 = .ok (.aload_n 0, 1) := by decide +kernel
theorem d_M_termEnds_87 : decode prog_10_method_28_code 87 = .ok (.getfield 59, 3) := by decide +kernel
theorem d_M_termEnds_90 : decode prog_10_method_28_code 90 = .ok (.aload_n 0, 1) := by decide +kernel
theorem d_M_termEnds_91 : decode prog_10_method_28_code 91 = .ok (.getfield 128, 3) := by decide +kernel
theorem d_M_termEnds_94 : decode prog_10_method_28_code 94 = .ok (.iconst 1, 1) := by decide +kernel
theorem d_M_termEnds_95 : decode prog_10_method_28_code 95 = .ok (.isub, 1) := by decide +kernel
theorem d_M_termEnds_96 : decode prog_10_method_28_code 96 = .ok (.dup2, 1) := by decide +kernel
theorem d_M_termEnds_97 : decode prog_10_method_28_code 97 = .ok (.iaload, 1) := by decide +kernel
theorem d_M_termEnds_98 : decode prog_10_method_28_code 98 = .ok (.iconst 1, 1) := by decide +kernel
theorem d_M_termEnds_99 : decode prog_10_method_28_code 99 = .ok (.iadd, 1) := by decide +kernel
theorem d_M_termEnds_100 : decode prog_10_method_28_code 100 = .ok (.iastore, 1) := by decide +kernel
theorem d_M_termEnds_101 : decode prog_10_method_28_code 101 = .ok (.aload_n 0, 1) := by decide +kernel
theorem d_M_termEnds_102 : decode prog_10_method_28_code 102 = .ok (.getfield 59, 3) := by decide +kernel
theorem d_M_termEnds_105 : decode prog_10_method_28_code 105 = .ok (.aload_n 0, 1) := by decide +kernel
theorem d_M_termEnds_106 : decode prog_10_method_28_code 106 = .ok (.getfield 128, 3) := by decide +kernel
theorem d_M_termEnds_109 : decode prog_10_method_28_code 109 = .ok (.iconst 1, 1) := by decide +kernel
theorem d_M_termEnds_110 : decode prog_10_method_28_code 110 = .ok (.isub, 1) := by decide +kernel
theorem d_M_termEnds_111 : decode prog_10_method_28_code 111 = .ok (.iaload, 1) := by decide +kernel
theorem d_M_termEnds_112 : decode prog_10_method_28_code 112 = .ok (.iload_n 1, 1) := by decide +kernel
theorem d_M_termEnds_113 : decode prog_10_method_28_code 113 = .ok (.bipush (6), 2) := by decide +kernel
theorem d_M_termEnds_115 : decode prog_10_method_28_code 115 = .ok (.if_icmp .ne (7), 3) := by decide +kernel
theorem d_M_termEnds_118 : decode prog_10_method_28_code 118 = .ok (.iconst 1, 1) := by decide +kernel
theorem d_M_termEnds_119 : decode prog_10_method_28_code 119 = .ok (.goto (4), 3) := by decide +kernel
theorem d_M_termEnds_122 : decode prog_10_method_28_code 122 = .ok (.iconst 2, 1) := by decide +kernel
theorem d_M_termEnds_123 : decode prog_10_method_28_code 123 = .ok (.if_icmp .ne (7), 3) := by decide +kernel
theorem d_M_termEnds_126 : decode prog_10_method_28_code 126 = .ok (.iconst 1, 1) := by decide +kernel
theorem d_M_termEnds_127 : decode prog_10_method_28_code 127 = .ok (.goto (4), 3) := by decide +kernel
theorem d_M_termEnds_130 : decode prog_10_method_28_code 130 = .ok (.iconst 0, 1) := by decide +kernel
theorem d_M_termEnds_131 : decode prog_10_method_28_code 131 = .ok (.istore_n 2, 1) := by decide +kernel
theorem d_M_termEnds_132 : decode prog_10_method_28_code 132 = .ok (.iload_n 2, 1) := by decide +kernel
theorem d_M_termEnds_133 : decode prog_10_method_28_code 133 = .ok (.ifCond .ne (4), 3) := by decide +kernel
theorem d_M_termEnds_136 : decode prog_10_method_28_code 136 = .ok (.return_, 1) := by decide +kernel
theorem d_M_termEnds_137 : decode prog_10_method_28_code 137 = .ok (.iload_n 1, 1) := by decide +kernel
theorem d_M_termEnds_138 : decode prog_10_method_28_code 138 = .ok (.bipush (6), 2) := by decide +kernel
theorem d_M_termEnds_140 : decode prog_10_method_28_code 140 = .ok (.if_icmp .ne (23), 3) := by decide +kernel
theorem d_M_termEnds_143 : decode prog_10_method_28_code 143 = .ok (.aload_n 0, 1) := by decide +kernel
theorem d_M_termEnds_144 : decode prog_10_method_28_code 144 = .ok (.bipush (6), 2) := by decide +kernel
theorem d_M_termEnds_146 : decode prog_10_method_28_code 146 = .ok (.aload_n 0, 1) := by decide +kernel
theorem d_M_termEnds_147 : decode prog_10_method_28_code 147 = .ok (.getfield 56, 3) := by decide +kernel
theorem d_M_termEnds_150 : decode prog_10_method_28_code 150 = .ok (.aload_n 0, 1) := by decide +kernel
theorem d_M_termEnds_151 : decode prog_10_method_28_code 151 = .ok (.getfield 128, 3) := by decide +kernel
theorem d_M_termEnds_154 : decode prog_10_method_28_code 154 = .ok (.iconst 1, 1) := by decide +kernel
theorem d_M_termEnds_155 : decode prog_10_method_28_code 155 = .ok (.isub, 1) := by decide +kernel
theorem d_M_termEnds_156 : decode prog_10_method_28_code 156 = .ok (.iaload, 1) := by decide +kernel
theorem d_M_termEnds_157 : decode prog_10_method_28_code 157 = .ok (.invokevirtual 181, 3) := by decide +kernel
theorem d_M_termEnds_160 : decode prog_10_method_28_code 160 = .ok (.goto (19), 3) := by decide +kernel
theorem d_M_termEnds_163 : decode prog_10_method_28_code 163 = .ok (.aload_n 0, 1) := by decide +kernel
theorem d_M_termEnds_164 : decode prog_10_method_28_code 164 = .ok (.iload_n 1, 1) := by decide +kernel
theorem d_M_termEnds_165 : decode prog_10_method_28_code 165 = .ok (.aload_n 0, 1) := by decide +kernel
theorem d_M_termEnds_166 : decode prog_10_method_28_code 166 = .ok (.getfield 56, 3) := by decide +kernel
theorem d_M_termEnds_169 : decode prog_10_method_28_code 169 = .ok (.aload_n 0, 1) := by decide +kernel
theorem d_M_termEnds_170 : decode prog_10_method_28_code 170 = .ok (.getfield 128, 3) := by decide +kernel
theorem d_M_termEnds_173 : decode prog_10_method_28_code 173 = .ok (.iconst 1, 1) := by decide +kernel
theorem d_M_termEnds_174 : decode prog_10_method_28_code 174 = .ok (.isub, 1) := by decide +kernel
theorem d_M_termEnds_175 : decode prog_10_method_28_code 175 = .ok (.iaload, 1) := by decide +kernel
theorem d_M_termEnds_176 : decode prog_10_method_28_code 176 = .ok (.invokevirtual 178, 3) := by decide +kernel
theorem d_M_termEnds_179 : decode prog_10_method_28_code 179 = .ok (.return_, 1) := by decide +kernel
def b_M_termEnds_85 (post : zH → Prop) (h : zH) : Prop := post h
def b_M_termEnds_179 (post : zH → Prop) (h : zH) : Prop := post h
def b_M_termEnds_131 (post : zH → Prop) (l1 : Int32) (s0 : Int32) (h : zH) : Prop := ((¬ s0 = 0 → ((¬ l1 = 6 → (vp_in ((h.1 39 28) - 1) 300 ∧ wp_M_doTwo (l1) ((h.1 55 (((h.1 39 28) - 1) : Int32).toNatClampNeg)) h (fun (h2 : zH) => b_M_termEnds_179 post  h2))) ∧ (l1 = 6 → (vp_in ((h.1 39 28) - 1) 300 ∧ wp_M_doOne (6) ((h.1 55 (((h.1 39 28) - 1) : Int32).toNatClampNeg)) h (fun (h4 : zH) => b_M_termEnds_179 post  h4))))) ∧ (s0 = 0 → post h))
def b_M_termEnds_123 (post : zH → Prop) (l1 : Int32) (s0 : Int32) (s1 : Int32) (h : zH) : Prop := ((¬ s1 = s0 → b_M_termEnds_131 post (l1) (0) h) ∧ (s1 = s0 → b_M_termEnds_131 post (l1) (1) h))
def b_M_termEnds_86 (post : zH → Prop) (l1 : Int32) (h : zH) : Prop := (vp_in ((h.1 39 28) - 1) 300 ∧ (vp_in ((h.1 39 28) - 1) 300 ∧ ∀ h5 : zH, h5 = zi h 56 (((h.1 39 28) - 1) : Int32).toNatClampNeg ((h.1 56 (((h.1 39 28) - 1) : Int32).toNatClampNeg) + 1) → (vp_in ((h5.1 39 28) - 1) 300 ∧ ((¬ l1 = 6 → b_M_termEnds_123 post (l1) (2) ((h5.1 56 (((h5.1 39 28) - 1) : Int32).toNatClampNeg)) h5) ∧ (l1 = 6 → b_M_termEnds_123 post (l1) (1) ((h5.1 56 (((h5.1 39 28) - 1) : Int32).toNatClampNeg)) h5)))))
def b_M_termEnds_57 (post : zH → Prop) (h : zH) : Prop := wp_M_topOp  h (fun (r6 : Int32) (h7 : zH) => ((0 < (h7.1 39 24) → b_M_termEnds_85 post  h7) ∧ (¬ 0 < (h7.1 39 24) → ((r6 = 4 → b_M_termEnds_86 post (r6) h7) ∧ (¬ r6 = 4 → ((r6 = 5 → b_M_termEnds_86 post (r6) h7) ∧ (¬ r6 = 5 → ((r6 = 6 → b_M_termEnds_86 post (r6) h7) ∧ (¬ r6 = 6 → b_M_termEnds_85 post  h7)))))))))
def b_M_termEnds_5 (post : zH → Prop) : Nat → zH → Prop
  | 0, _ => False
  | n + 1, h => (fun rc : zH → Prop => ((¬ (h.1 39 24) = 0 → b_M_termEnds_57 post  h) ∧ ((h.1 39 24) = 0 → wp_M_topOp  h (fun (r8 : Int32) (h9 : zH) => ((¬ r8 = 101 → b_M_termEnds_57 post  h9) ∧ (r8 = 101 → (∀ h10 : zH, h10 = zi h9 39 28 ((h9.1 39 28) - 1) → (∀ h11 : zH, h11 = zi h10 39 31 ((h10.1 39 31) - 1) → (vp_in (h11.1 39 28) 300 ∧ wp_M_doChoice ((h11.1 55 ((h11.1 39 28) : Int32).toNatClampNeg)) h11 (fun (h13 : zH) => rc  h13)))))))))) (b_M_termEnds_5 post n)
def wp_M_termEnds (h : zH) (post : zH → Prop) : Prop := wp_M_doAll (1) h (fun (h15 : zH) => (∃ n : Nat, b_M_termEnds_5 post n  h15))
set_option maxRecDepth 100000 in
set_option maxHeartbeats 4000000 in
theorem w_M_termEnds_85 {l : Launch} {E : zE} {G : (Nat → Prop) → State → Prop} {p : Program} {e : Env} {s : State} {m : MethodId} {args : Array Value} {below : List Frame} {meth : Method} {c : Code} {A : Nat → Prop} {post : zH → Prop} (hG : xGG E G) (C : zCx p s m args meth c E G A 4 111 prog_10_method_28_code 3 cn_M) (hr : meth.sig.returnType = none)  (h : zH) (hw : b_M_termEnds_85 post  h) : zGo p l e s m args below meth c E A 4 111 3 (zPv post) h 85 [none, none, none] [] := by
  unfold b_M_termEnds_85 at hw
  exact z_vret C hr d_M_termEnds_85 hw
set_option maxRecDepth 100000 in
set_option maxHeartbeats 4000000 in
theorem w_M_termEnds_179 {l : Launch} {E : zE} {G : (Nat → Prop) → State → Prop} {p : Program} {e : Env} {s : State} {m : MethodId} {args : Array Value} {below : List Frame} {meth : Method} {c : Code} {A : Nat → Prop} {post : zH → Prop} (hG : xGG E G) (C : zCx p s m args meth c E G A 4 111 prog_10_method_28_code 3 cn_M) (hr : meth.sig.returnType = none)  (h : zH) (hw : b_M_termEnds_179 post  h) : zGo p l e s m args below meth c E A 4 111 3 (zPv post) h 179 [none, none, none] [] := by
  unfold b_M_termEnds_179 at hw
  exact z_vret C hr d_M_termEnds_179 hw
set_option maxRecDepth 100000 in
set_option maxHeartbeats 4000000 in
theorem w_M_termEnds_131 {l : Launch} {E : zE} {G : (Nat → Prop) → State → Prop} {p : Program} {e : Env} {s : State} {m : MethodId} {args : Array Value} {below : List Frame} {meth : Method} {c : Code} {A : Nat → Prop} {post : zH → Prop} (hG : xGG E G) (C : zCx p s m args meth c E G A 4 111 prog_10_method_28_code 3 cn_M) (hr : meth.sig.returnType = none)  (l1 : Int32) (s0 : Int32) (h : zH) (hw : b_M_termEnds_131 post l1 s0 h) : zGo p l e s m args below meth c E A 4 111 3 (zPv post) h 131 [some (.ref (E.2.2.1 39)), some (.int l1), none] [.int s0] := by
  unfold b_M_termEnds_131 at hw
  refine z_istore_n C (i := 2) d_M_termEnds_131 rfl (by decide) rfl ?_
  refine z_iload_n C (i := 2) d_M_termEnds_132 rfl rfl ?_
  refine z_if_ne C (tgt := 137) d_M_termEnds_133 (by decide) (fun q => ?_) (fun q => ?_)
  · replace hw := hw.1 q
    refine z_iload_n C (i := 1) d_M_termEnds_137 rfl rfl ?_
    refine z_bipush C (v := 6) d_M_termEnds_138 (by decide) ?_
    refine z_icmp_ne C (tgt := 163) d_M_termEnds_140 (by decide) (fun q => ?_) (fun q => ?_)
    · replace hw := hw.1 q
      refine z_aload_n C (i := 0) d_M_termEnds_163 rfl rfl ?_
      refine z_iload_n C (i := 1) d_M_termEnds_164 rfl rfl ?_
      refine z_aload_n C (i := 0) d_M_termEnds_165 rfl rfl ?_
      refine z_getS C (ci := 8) (j := 26) (F := cf_M) (by decide) rfl rfl in_M (by decide) fl_M_56 rfl d_M_termEnds_166 ?_
      refine z_aload_n C (i := 0) d_M_termEnds_169 rfl rfl ?_
      refine z_getI C (ci := 8) (j := 28) (F := cf_M) (by decide) rfl rfl in_M (by decide) fl_M_128 rfl d_M_termEnds_170 ?_
      refine z_iconst C (v := 1) d_M_termEnds_173 (by decide) ?_
      refine z_isub C d_M_termEnds_174 ?_
      refine z_iald C (by decide) rfl hw.1 d_M_termEnds_175 ?_
      replace hw := hw.2
      refine z_callVv ⟨xN_ok, hG.1⟩ zT_good C (t_M_doTwo hG hw) ol_M_178 (by decide) rfl rfl (by decide) (by decide) pl_M_doTwo rfl rfl (Nat.le_of_ble_eq_true rfl) d_M_termEnds_176 (fun h2 hw => ?_)
      refine z_le (lv2 := [none, none, none]) (trivial) ?_
      exact w_M_termEnds_179 hG C hr  _ hw
    · replace hw := hw.2 q
      refine z_aload_n C (i := 0) d_M_termEnds_143 rfl rfl ?_
      refine z_bipush C (v := 6) d_M_termEnds_144 (by decide) ?_
      refine z_aload_n C (i := 0) d_M_termEnds_146 rfl rfl ?_
      refine z_getS C (ci := 8) (j := 26) (F := cf_M) (by decide) rfl rfl in_M (by decide) fl_M_56 rfl d_M_termEnds_147 ?_
      refine z_aload_n C (i := 0) d_M_termEnds_150 rfl rfl ?_
      refine z_getI C (ci := 8) (j := 28) (F := cf_M) (by decide) rfl rfl in_M (by decide) fl_M_128 rfl d_M_termEnds_151 ?_
      refine z_iconst C (v := 1) d_M_termEnds_154 (by decide) ?_
      refine z_isub C d_M_termEnds_155 ?_
      refine z_iald C (by decide) rfl hw.1 d_M_termEnds_156 ?_
      replace hw := hw.2
      refine z_callVv ⟨xN_ok, hG.1⟩ zT_good C (t_M_doOne hG hw) ol_M_181 (by decide) rfl rfl (by decide) (by decide) pl_M_doOne rfl rfl (Nat.le_of_ble_eq_true rfl) d_M_termEnds_157 (fun h4 hw => ?_)
      refine z_goto C (tgt := 179) d_M_termEnds_160 (by decide) ?_
      refine z_le (lv2 := [none, none, none]) (trivial) ?_
      exact w_M_termEnds_179 hG C hr  _ hw
  · replace hw := hw.2 q
    exact z_vret C hr d_M_termEnds_136 hw
set_option maxRecDepth 100000 in
set_option maxHeartbeats 4000000 in
theorem w_M_termEnds_123 {l : Launch} {E : zE} {G : (Nat → Prop) → State → Prop} {p : Program} {e : Env} {s : State} {m : MethodId} {args : Array Value} {below : List Frame} {meth : Method} {c : Code} {A : Nat → Prop} {post : zH → Prop} (hG : xGG E G) (C : zCx p s m args meth c E G A 4 111 prog_10_method_28_code 3 cn_M) (hr : meth.sig.returnType = none)  (l1 : Int32) (s0 : Int32) (s1 : Int32) (h : zH) (hw : b_M_termEnds_123 post l1 s0 s1 h) : zGo p l e s m args below meth c E A 4 111 3 (zPv post) h 123 [some (.ref (E.2.2.1 39)), some (.int l1), none] [.int s0, .int s1] := by
  unfold b_M_termEnds_123 at hw
  refine z_icmp_ne C (tgt := 130) d_M_termEnds_123 (by decide) (fun q => ?_) (fun q => ?_)
  · replace hw := hw.1 q
    refine z_iconst C (v := 0) d_M_termEnds_130 (by decide) ?_
    refine z_le (lv2 := [some (.ref (E.2.2.1 39)), some (.int l1), none]) (⟨rfl, ⟨rfl, trivial⟩⟩) ?_
    exact w_M_termEnds_131 hG C hr _ _ _ hw
  · replace hw := hw.2 q
    refine z_iconst C (v := 1) d_M_termEnds_126 (by decide) ?_
    refine z_goto C (tgt := 131) d_M_termEnds_127 (by decide) ?_
    refine z_le (lv2 := [some (.ref (E.2.2.1 39)), some (.int l1), none]) (⟨rfl, ⟨rfl, trivial⟩⟩) ?_
    exact w_M_termEnds_131 hG C hr _ _ _ hw
set_option maxRecDepth 100000 in
set_option maxHeartbeats 4000000 in
theorem w_M_termEnds_86 {l : Launch} {E : zE} {G : (Nat → Prop) → State → Prop} {p : Program} {e : Env} {s : State} {m : MethodId} {args : Array Value} {below : List Frame} {meth : Method} {c : Code} {A : Nat → Prop} {post : zH → Prop} (hG : xGG E G) (C : zCx p s m args meth c E G A 4 111 prog_10_method_28_code 3 cn_M) (hr : meth.sig.returnType = none)  (l1 : Int32) (h : zH) (hw : b_M_termEnds_86 post l1 h) : zGo p l e s m args below meth c E A 4 111 3 (zPv post) h 86 [some (.ref (E.2.2.1 39)), some (.int l1), none] [] := by
  unfold b_M_termEnds_86 at hw
  refine z_aload_n C (i := 0) d_M_termEnds_86 rfl rfl ?_
  refine z_getS C (ci := 8) (j := 27) (F := cf_M) (by decide) rfl rfl in_M (by decide) fl_M_59 rfl d_M_termEnds_87 ?_
  refine z_aload_n C (i := 0) d_M_termEnds_90 rfl rfl ?_
  refine z_getI C (ci := 8) (j := 28) (F := cf_M) (by decide) rfl rfl in_M (by decide) fl_M_128 rfl d_M_termEnds_91 ?_
  refine z_iconst C (v := 1) d_M_termEnds_94 (by decide) ?_
  refine z_isub C d_M_termEnds_95 ?_
  refine z_dup2 C d_M_termEnds_96 rfl rfl ?_
  refine z_iald C (by decide) rfl hw.1 d_M_termEnds_97 ?_
  replace hw := hw.2
  refine z_iconst C (v := 1) d_M_termEnds_98 (by decide) ?_
  refine z_iadd C d_M_termEnds_99 ?_
  refine z_iast C (by decide) rfl hw.1 d_M_termEnds_100 (fun h5 eh5 => ?_)
  replace hw := hw.2 h5 eh5
  refine z_aload_n C (i := 0) d_M_termEnds_101 rfl rfl ?_
  refine z_getS C (ci := 8) (j := 27) (F := cf_M) (by decide) rfl rfl in_M (by decide) fl_M_59 rfl d_M_termEnds_102 ?_
  refine z_aload_n C (i := 0) d_M_termEnds_105 rfl rfl ?_
  refine z_getI C (ci := 8) (j := 28) (F := cf_M) (by decide) rfl rfl in_M (by decide) fl_M_128 rfl d_M_termEnds_106 ?_
  refine z_iconst C (v := 1) d_M_termEnds_109 (by decide) ?_
  refine z_isub C d_M_termEnds_110 ?_
  refine z_iald C (by decide) rfl hw.1 d_M_termEnds_111 ?_
  replace hw := hw.2
  refine z_iload_n C (i := 1) d_M_termEnds_112 rfl rfl ?_
  refine z_bipush C (v := 6) d_M_termEnds_113 (by decide) ?_
  refine z_icmp_ne C (tgt := 122) d_M_termEnds_115 (by decide) (fun q => ?_) (fun q => ?_)
  · replace hw := hw.1 q
    refine z_iconst C (v := 2) d_M_termEnds_122 (by decide) ?_
    refine z_le (lv2 := [some (.ref (E.2.2.1 39)), some (.int l1), none]) (⟨rfl, ⟨rfl, trivial⟩⟩) ?_
    exact w_M_termEnds_123 hG C hr _ _ _ _ hw
  · replace hw := hw.2 q
    refine z_iconst C (v := 1) d_M_termEnds_118 (by decide) ?_
    refine z_goto C (tgt := 123) d_M_termEnds_119 (by decide) ?_
    refine z_le (lv2 := [some (.ref (E.2.2.1 39)), some (.int l1), none]) (⟨rfl, ⟨rfl, trivial⟩⟩) ?_
    exact w_M_termEnds_123 hG C hr _ _ _ _ hw
set_option maxRecDepth 100000 in
set_option maxHeartbeats 4000000 in
theorem w_M_termEnds_57 {l : Launch} {E : zE} {G : (Nat → Prop) → State → Prop} {p : Program} {e : Env} {s : State} {m : MethodId} {args : Array Value} {below : List Frame} {meth : Method} {c : Code} {A : Nat → Prop} {post : zH → Prop} (hG : xGG E G) (C : zCx p s m args meth c E G A 4 111 prog_10_method_28_code 3 cn_M) (hr : meth.sig.returnType = none)  (h : zH) (hw : b_M_termEnds_57 post  h) : zGo p l e s m args below meth c E A 4 111 3 (zPv post) h 57 [some (.ref (E.2.2.1 39)), none, none] [] := by
  unfold b_M_termEnds_57 at hw
  refine z_aload_n C (i := 0) d_M_termEnds_57 rfl rfl ?_
  refine z_callVi ⟨xN_ok, hG.1⟩ zT_good C (t_M_topOp hG hw) ol_M_175 (by decide) rfl rfl (by decide) (by decide) pl_M_topOp rfl rfl (Nat.le_of_ble_eq_true rfl) d_M_termEnds_58 (fun r6 h7 hw => ?_)
  refine z_istore_n C (i := 1) d_M_termEnds_61 rfl (by decide) rfl ?_
  refine z_aload_n C (i := 0) d_M_termEnds_62 rfl rfl ?_
  refine z_getI C (ci := 8) (j := 24) (F := cf_M) (by decide) rfl rfl in_M (by decide) fl_M_118 rfl d_M_termEnds_63 ?_
  refine z_if_gt C (tgt := 85) d_M_termEnds_66 (by decide) (fun q => ?_) (fun q => ?_)
  · replace hw := hw.1 q
    refine z_le (lv2 := [none, none, none]) (trivial) ?_
    exact w_M_termEnds_85 hG C hr  _ hw
  · replace hw := hw.2 q
    refine z_iload_n C (i := 1) d_M_termEnds_69 rfl rfl ?_
    refine z_iconst C (v := 4) d_M_termEnds_70 (by decide) ?_
    refine z_icmp_eq C (tgt := 86) d_M_termEnds_71 (by decide) (fun q => ?_) (fun q => ?_)
    · replace hw := hw.1 q
      refine z_le (lv2 := [some (.ref (E.2.2.1 39)), some (.int r6), none]) (⟨rfl, ⟨rfl, trivial⟩⟩) ?_
      exact w_M_termEnds_86 hG C hr _ _ hw
    · replace hw := hw.2 q
      refine z_iload_n C (i := 1) d_M_termEnds_74 rfl rfl ?_
      refine z_iconst C (v := 5) d_M_termEnds_75 (by decide) ?_
      refine z_icmp_eq C (tgt := 86) d_M_termEnds_76 (by decide) (fun q => ?_) (fun q => ?_)
      · replace hw := hw.1 q
        refine z_le (lv2 := [some (.ref (E.2.2.1 39)), some (.int r6), none]) (⟨rfl, ⟨rfl, trivial⟩⟩) ?_
        exact w_M_termEnds_86 hG C hr _ _ hw
      · replace hw := hw.2 q
        refine z_iload_n C (i := 1) d_M_termEnds_79 rfl rfl ?_
        refine z_bipush C (v := 6) d_M_termEnds_80 (by decide) ?_
        refine z_icmp_eq C (tgt := 86) d_M_termEnds_82 (by decide) (fun q => ?_) (fun q => ?_)
        · replace hw := hw.1 q
          refine z_le (lv2 := [some (.ref (E.2.2.1 39)), some (.int r6), none]) (⟨rfl, ⟨rfl, trivial⟩⟩) ?_
          exact w_M_termEnds_86 hG C hr _ _ hw
        · replace hw := hw.2 q
          refine z_le (lv2 := [none, none, none]) (trivial) ?_
          exact w_M_termEnds_85 hG C hr  _ hw
set_option maxRecDepth 100000 in
set_option maxHeartbeats 4000000 in
theorem w_M_termEnds_5 {l : Launch} {E : zE} {G : (Nat → Prop) → State → Prop} {p : Program} {e : Env} {s : State} {m : MethodId} {args : Array Value} {below : List Frame} {meth : Method} {c : Code} {A : Nat → Prop} {post : zH → Prop} (hG : xGG E G) (C : zCx p s m args meth c E G A 4 111 prog_10_method_28_code 3 cn_M) (hr : meth.sig.returnType = none) : ∀ (n : Nat) (h : zH), b_M_termEnds_5 post n  h → zGo p l e s m args below meth c E A 4 111 3 (zPv post) h 5 [some (.ref (E.2.2.1 39)), none, none] [] := by
  intro n
  induction n with
  | zero => intro  h hw; exact False.elim hw
  | succ n hrc =>
    intro  h hw
    unfold b_M_termEnds_5 at hw
    refine z_aload_n C (i := 0) d_M_termEnds_5 rfl rfl ?_
    refine z_getI C (ci := 8) (j := 24) (F := cf_M) (by decide) rfl rfl in_M (by decide) fl_M_118 rfl d_M_termEnds_6 ?_
    refine z_if_ne C (tgt := 57) d_M_termEnds_9 (by decide) (fun q => ?_) (fun q => ?_)
    · replace hw := hw.1 q
      refine z_le (lv2 := [some (.ref (E.2.2.1 39)), none, none]) (⟨rfl, trivial⟩) ?_
      exact w_M_termEnds_57 hG C hr  _ hw
    · replace hw := hw.2 q
      refine z_aload_n C (i := 0) d_M_termEnds_12 rfl rfl ?_
      refine z_callVi ⟨xN_ok, hG.1⟩ zT_good C (t_M_topOp hG hw) ol_M_175 (by decide) rfl rfl (by decide) (by decide) pl_M_topOp rfl rfl (Nat.le_of_ble_eq_true rfl) d_M_termEnds_13 (fun r8 h9 hw => ?_)
      refine z_bipush C (v := 101) d_M_termEnds_16 (by decide) ?_
      refine z_icmp_ne C (tgt := 57) d_M_termEnds_18 (by decide) (fun q => ?_) (fun q => ?_)
      · replace hw := hw.1 q
        refine z_le (lv2 := [some (.ref (E.2.2.1 39)), none, none]) (⟨rfl, trivial⟩) ?_
        exact w_M_termEnds_57 hG C hr  _ hw
      · replace hw := hw.2 q
        refine z_aload_n C (i := 0) d_M_termEnds_21 rfl rfl ?_
        refine z_dup C d_M_termEnds_22 rfl ?_
        refine z_getI C (ci := 8) (j := 28) (F := cf_M) (by decide) rfl rfl in_M (by decide) fl_M_128 rfl d_M_termEnds_23 ?_
        refine z_iconst C (v := 1) d_M_termEnds_26 (by decide) ?_
        refine z_isub C d_M_termEnds_27 ?_
        refine z_putI C (ci := 8) (j := 28) (F := cf_M) ct_M (by decide) rfl rfl in_M ty_M nm_M (by decide) fl_M_128 rfl (by decide +kernel) rfl d_M_termEnds_28 (fun h10 eh10 => ?_)
        replace hw := hw h10 eh10
        refine z_aload_n C (i := 0) d_M_termEnds_31 rfl rfl ?_
        refine z_dup C d_M_termEnds_32 rfl ?_
        refine z_getI C (ci := 8) (j := 31) (F := cf_M) (by decide) rfl rfl in_M (by decide) fl_M_131 rfl d_M_termEnds_33 ?_
        refine z_iconst C (v := 1) d_M_termEnds_36 (by decide) ?_
        refine z_isub C d_M_termEnds_37 ?_
        refine z_putI C (ci := 8) (j := 31) (F := cf_M) ct_M (by decide) rfl rfl in_M ty_M nm_M (by decide) fl_M_131 rfl (by decide +kernel) rfl d_M_termEnds_38 (fun h11 eh11 => ?_)
        replace hw := hw h11 eh11
        refine z_aload_n C (i := 0) d_M_termEnds_41 rfl rfl ?_
        refine z_aload_n C (i := 0) d_M_termEnds_42 rfl rfl ?_
        refine z_getS C (ci := 8) (j := 26) (F := cf_M) (by decide) rfl rfl in_M (by decide) fl_M_56 rfl d_M_termEnds_43 ?_
        refine z_aload_n C (i := 0) d_M_termEnds_46 rfl rfl ?_
        refine z_getI C (ci := 8) (j := 28) (F := cf_M) (by decide) rfl rfl in_M (by decide) fl_M_128 rfl d_M_termEnds_47 ?_
        refine z_iald C (by decide) rfl hw.1 d_M_termEnds_50 ?_
        replace hw := hw.2
        refine z_callVv ⟨xN_ok, hG.1⟩ zT_good C (t_M_doChoice hG hw) ol_M_187 (by decide) rfl rfl (by decide) (by decide) pl_M_doChoice rfl rfl (Nat.le_of_ble_eq_true rfl) d_M_termEnds_51 (fun h13 hw => ?_)
        refine z_goto C (tgt := 5) d_M_termEnds_54 (by decide) ?_
        refine z_le (lv2 := [some (.ref (E.2.2.1 39)), none, none]) (⟨rfl, trivial⟩) ?_
        exact hrc  _ hw
set_option maxRecDepth 100000 in
set_option maxHeartbeats 4000000 in
theorem t_M_termEnds {l : Launch} {E : zE} {G : (Nat → Prop) → State → Prop} (hG : xGG E G) {h : zH} {post : zH → Prop} (hw : wp_M_termEnds  h post) : Ct l xX E xcl xN zT G 4 111 y_M_termEnds prog_10_method_28_code 3 none [.ref (E.2.2.1 39)] h (zPv post) := by
  unfold wp_M_termEnds at hw
  refine Ct.of (by decide) (Nat.le_of_ble_eq_true rfl) ?_
  intro p e s m below meth c A C hr
  refine z_lv (lv2 := [some (.ref (E.2.2.1 39)), none, none]) rfl ?_
  refine z_aload_n C (i := 0) d_M_termEnds_0 rfl rfl ?_
  refine z_iconst C (v := 1) d_M_termEnds_1 (by decide) ?_
  refine z_callVv ⟨xN_ok, hG.1⟩ zT_good C (t_M_doAll hG hw) ol_M_184 (by decide) rfl rfl (by decide) (by decide) pl_M_doAll rfl rfl (Nat.le_of_ble_eq_true rfl) d_M_termEnds_2 (fun h15 hw => ?_)
  refine z_le (lv2 := [some (.ref (E.2.2.1 39)), none, none]) (⟨rfl, trivial⟩) ?_
  obtain ⟨n, hw⟩ := hw
  exact w_M_termEnds_5 hG C hr n  _ hw
