theorem d_M_termFault_0 : decode prog_10_method_31_code 0 = .ok (.aload_n 0, 1) := by decide +kernel
theorem d_M_termFault_1 : decode prog_10_method_31_code 1 = .ok (.getfield 118, 3) := by decide +kernel
theorem d_M_termFault_4 : decode prog_10_method_31_code 4 = .ok (.ifCond .ne (7), 3) := by decide +kernel
theorem d_M_termFault_7 : decode prog_10_method_31_code 7 = .ok (.aload_n 0, 1) := by decide +kernel
theorem d_M_termFault_8 : decode prog_10_method_31_code 8 = .ok (.invokevirtual 196, 3) := by decide +kernel
theorem d_M_termFault_11 : decode prog_10_method_31_code 11 = .ok (.aload_n 0, 1) := by decide +kernel
theorem d_M_termFault_12 : decode prog_10_method_31_code 12 = .ok (.iconst 1, 1) := by decide +kernel
theorem d_M_termFault_13 : decode prog_10_method_31_code 13 = .ok (.aload_n 0, 1) := by decide +kernel
theorem d_M_termFault_14 : decode prog_10_method_31_code 14 = .ok (.getfield 93, 3) := by decide +kernel
theorem d_M_termFault_17 : decode prog_10_method_31_code 17 = .ok (.invokevirtual 124, 3) := by decide +kernel
theorem d_M_termFault_20 : decode prog_10_method_31_code 20 = .ok (.return_, 1) := by decide +kernel
def b_M_termFault_11 (post : zH → Prop) (h : zH) : Prop := wp_M_bad (1) ((h.1 39 9)) h (fun (h2 : zH) => post h2)
def wp_M_termFault (h : zH) (post : zH → Prop) : Prop := ((¬ (h.1 39 24) = 0 → b_M_termFault_11 post  h) ∧ ((h.1 39 24) = 0 → wp_M_termEnds  h (fun (h4 : zH) => b_M_termFault_11 post  h4)))
set_option maxRecDepth 100000 in
set_option maxHeartbeats 4000000 in
theorem w_M_termFault_11 {l : Launch} {E : zE} {G : (Nat → Prop) → State → Prop} {p : Program} {e : Env} {s : State} {m : MethodId} {args : Array Value} {below : List Frame} {meth : Method} {c : Code} {A : Nat → Prop} {post : zH → Prop} (hG : xGG E G) (C : zCx p s m args meth c E G A 5 133 prog_10_method_31_code 1 cn_M) (hr : meth.sig.returnType = none)  (h : zH) (hw : b_M_termFault_11 post  h) : zGo p l e s m args below meth c E A 5 133 1 (zPv post) h 11 [some (.ref (E.2.2.1 39))] [] := by
  unfold b_M_termFault_11 at hw
  refine z_aload_n C (i := 0) d_M_termFault_11 rfl rfl ?_
  refine z_iconst C (v := 1) d_M_termFault_12 (by decide) ?_
  refine z_aload_n C (i := 0) d_M_termFault_13 rfl rfl ?_
  refine z_getI C (ci := 8) (j := 9) (F := cf_M) (by decide) rfl rfl in_M (by decide) fl_M_93 rfl d_M_termFault_14 ?_
  refine z_callVv ⟨xN_ok, hG.1⟩ zT_good C (t_M_bad hG hw) ol_M_124 (by decide) rfl rfl (by decide) (by decide) pl_M_bad rfl rfl (Nat.le_of_ble_eq_true rfl) d_M_termFault_17 (fun h2 hw => ?_)
  exact z_vret C hr d_M_termFault_20 hw
set_option maxRecDepth 100000 in
set_option maxHeartbeats 4000000 in
theorem t_M_termFault {l : Launch} {E : zE} {G : (Nat → Prop) → State → Prop} (hG : xGG E G) {h : zH} {post : zH → Prop} (hw : wp_M_termFault  h post) : Ct l xX E xcl xN zT G 5 133 y_M_termFault prog_10_method_31_code 1 none [.ref (E.2.2.1 39)] h (zPv post) := by
  unfold wp_M_termFault at hw
  refine Ct.of (by decide) (Nat.le_of_ble_eq_true rfl) ?_
  intro p e s m below meth c A C hr
  refine z_lv (lv2 := [some (.ref (E.2.2.1 39))]) rfl ?_
  refine z_aload_n C (i := 0) d_M_termFault_0 rfl rfl ?_
  refine z_getI C (ci := 8) (j := 24) (F := cf_M) (by decide) rfl rfl in_M (by decide) fl_M_118 rfl d_M_termFault_1 ?_
  refine z_if_ne C (tgt := 11) d_M_termFault_4 (by decide) (fun q => ?_) (fun q => ?_)
  · replace hw := hw.1 q
    refine z_le (lv2 := [some (.ref (E.2.2.1 39))]) (⟨rfl, trivial⟩) ?_
    exact w_M_termFault_11 hG C hr  _ hw
  · replace hw := hw.2 q
    refine z_aload_n C (i := 0) d_M_termFault_7 rfl rfl ?_
    refine z_callVv ⟨xN_ok, hG.1⟩ zT_good C (t_M_termEnds hG hw) ol_M_196 (by decide) rfl rfl (by decide) (by decide) pl_M_termEnds rfl rfl (Nat.le_of_ble_eq_true rfl) d_M_termFault_8 (fun h4 hw => ?_)
    refine z_le (lv2 := [some (.ref (E.2.2.1 39))]) (⟨rfl, trivial⟩) ?_
    exact w_M_termFault_11 hG C hr  _ hw
theorem d_M_wasRead_0 : decode prog_10_method_26_code 0 = .ok (.iconst 1, 1) := by decide +kernel
theorem d_M_wasRead_1 : decode prog_10_method_26_code 1 = .ok (.istore_n 1, 1) := by decide +kernel
theorem d_M_wasRead_2 : decode prog_10_method_26_code 2 = .ok (.iload_n 1, 1) := by decide +kernel
theorem d_M_wasRead_3 : decode prog_10_method_26_code 3 = .ok (.ifCond .eq (117), 3) := by decide +kernel
theorem d_M_wasRead_6 : decode prog_10_method_26_code 6 = .ok (.aload_n 0, 1) := by decide +kernel
theorem d_M_wasRead_7 : decode prog_10_method_26_code 7 = .ok (.getfield 118, 3) := by decide +kernel
theorem d_M_wasRead_10 : decode prog_10_method_26_code 10 = .ok (.ifCond .ne (110), 3) := by decide +kernel
theorem d_M_wasRead_13 : decode prog_10_method_26_code 13 = .ok (.aload_n 0, 1) := by decide +kernel
theorem d_M_wasRead_14 : decode prog_10_method_26_code 14 = .ok (.invokevirtual 175, 3) := by decide +kernel
theorem d_M_wasRead_17 : decode prog_10_method_26_code 17 = .ok (.istore_n 2, 1) := by decide +kernel
theorem d_M_wasRead_18 : decode prog_10_method_26_code 18 = .ok (.aload_n 0, 1) := by decide +kernel
theorem d_M_wasRead_19 : decode prog_10_method_26_code 19 = .ok (.getfield 128, 3) := by decide +kernel
theorem d_M_wasRead_22 : decode prog_10_method_26_code 22 = .ok (.ifCond .ne (7), 3) := by decide +kernel
theorem d_M_wasRead_25 : decode prog_10_method_26_code 25 = .ok (.iconst 0, 1) := by decide +kernel
theorem d_M_wasRead_26 : decode prog_10_method_26_code 26 = .ok (.goto (14), 3) := by decide +kernel
theorem d_M_wasRead_29 : decode prog_10_method_26_code 29 = .ok (.aload_n 0, 1) := by decide +kernel
theorem d_M_wasRead_30 : decode prog_10_method_26_code 30 = .ok (.getfield 56, 3) := by decide +kernel
theorem d_M_wasRead_33 : decode prog_10_method_26_code 33 = .ok (.aload_n 0, 1) := by decide +kernel
theorem d_M_wasRead_34 : decode prog_10_method_26_code 34 = .ok (.getfield 128, 3) := by decide +kernel
theorem d_M_wasRead_37 : decode prog_10_method_26_code 37 = .ok (.iconst 1, 1) := by decide +kernel
theorem d_M_wasRead_38 : decode prog_10_method_26_code 38 = .ok (.isub, 1) := by decide +kernel
theorem d_M_wasRead_39 : decode prog_10_method_26_code 39 = .ok (.iaload, 1) := by decide +kernel
theorem d_M_wasRead_40 : decode prog_10_method_26_code 40 = .ok (.istore_n 3, 1) := by decide +kernel
theorem d_M_wasRead_41 : decode prog_10_method_26_code 41 = .ok (.iload_n 2, 1) := by decide +kernel
theorem d_M_wasRead_42 : decode prog_10_method_26_code 42 = .ok (.bipush (100), 2) := by decide +kernel
theorem d_M_wasRead_44 : decode prog_10_method_26_code 44 = .ok (.if_icmp .eq (18), 3) := by decide +kernel
theorem d_M_wasRead_47 : decode prog_10_method_26_code 47 = .ok (.iload_n 2, 1) := by decide +kernel
theorem d_M_wasRead_48 : decode prog_10_method_26_code 48 = .ok (.bipush (33), 2) := by decide +kernel
theorem d_M_wasRead_50 : decode prog_10_method_26_code 50 = .ok (.if_icmp .eq (12), 3) := by decide +kernel
theorem d_M_wasRead_53 : decode prog_10_method_26_code 53 = .ok (.iload_n 2, 1) := by decide +kernel
theorem d_M_wasRead_54 : decode prog_10_method_26_code 54 = .ok (.invokestatic 157, 3) := by decide +kernel
theorem d_M_wasRead_57 : decode prog_10_method_26_code 57 = .ok (.bipush (6), 2) := by decide +kernel
theorem d_M_wasRead_59 : decode prog_10_method_26_code 59 = .ok (.if_icmp .ne (7), 3) := by decide +kernel
theorem d_M_wasRead_62 : decode prog_10_method_26_code 62 = .ok (.iconst 1, 1) := by decide +kernel
theorem d_M_wasRead_63 : decode prog_10_method_26_code 63 = .ok (.goto (4), 3) := by decide +kernel
theorem d_M_wasRead_66 : decode prog_10_method_26_code 66 = .ok (.iconst 0, 1) := by decide +kernel
theorem d_M_wasRead_67 : decode prog_10_method_26_code 67 = .ok (.istore_n 1, 1) := by decide +kernel
theorem d_M_wasRead_68 : decode prog_10_method_26_code 68 = .ok (.iload_n 1, 1) := by decide +kernel
theorem d_M_wasRead_69 : decode prog_10_method_26_code 69 = .ok (.ifCond .ne (4), 3) := by decide +kernel
theorem d_M_wasRead_72 : decode prog_10_method_26_code 72 = .ok (.return_, 1) := by decide +kernel
theorem d_M_wasRead_73 : decode prog_10_method_26_code 73 = .ok (.aload_n 0, 1) := by decide +kernel
theorem d_M_wasRead_74 : decode prog_10_method_26_code 74 = .ok (.dup, 1) := by decide +kernel
theorem d_M_wasRead_75 : decode prog_10_method_26_code 75 = .ok (.getfield 128, 3) := by decide +kernel
theorem d_M_wasRead_78 : decode prog_10_method_26_code 78 = .ok (.iconst 1, 1) := by decide +kernel
theorem d_M_wasRead_79 : decode prog_10_method_26_code 79 = .ok (.isub, 1) := by decide +kernel
theorem d_M_wasRead_80 : decode prog_10_method_26_code 80 = .ok (.putfield 128, 3) := by decide +kernel
theorem d_M_wasRead_83 : decode prog_10_method_26_code 83 = .ok (.iload_n 2, 1) := by decide +kernel
theorem d_M_wasRead_84 : decode prog_10_method_26_code 84 = .ok (.invokestatic 157, 3) := by decide +kernel
theorem d_M_wasRead_87 : decode prog_10_method_26_code 87 = .ok (.bipush (6), 2) := by decide +kernel
theorem d_M_wasRead_89 : decode prog_10_method_26_code 89 = .ok (.if_icmp .ne (12), 3) := by decide +kernel
theorem d_M_wasRead_92 : decode prog_10_method_26_code 92 = .ok (.aload_n 0, 1) := by decide +kernel
theorem d_M_wasRead_93 : decode prog_10_method_26_code 93 = .ok (.iload_n 2, 1) := by decide +kernel
theorem d_M_wasRead_94 : decode prog_10_method_26_code 94 = .ok (.iload_n 3, 1) := by decide +kernel
theorem d_M_wasRead_95 : decode prog_10_method_26_code 95 = .ok (.invokevirtual 178, 3) := by decide +kernel
theorem d_M_wasRead_98 : decode prog_10_method_26_code 98 = .ok (.goto (19), 3) := by decide +kernel
theorem d_M_wasRead_101 : decode prog_10_method_26_code 101 = .ok (.aload_n 0, 1) := by decide +kernel
theorem d_M_wasRead_102 : decode prog_10_method_26_code 102 = .ok (.dup, 1) := by decide +kernel
theorem d_M_wasRead_103 : decode prog_10_method_26_code 103 = .ok (.getfield 131, 3) := by decide +kernel
theorem d_M_wasRead_106 : decode prog_10_method_26_code 106 = .ok (.iconst 1, 1) := by decide +kernel
theorem d_M_wasRead_107 : decode prog_10_method_26_code 107 = .ok (.isub, 1) := by decide +kernel
theorem d_M_wasRead_108 : decode prog_10_method_26_code 108 = .ok (.putfield 131, 3) := by decide +kernel
theorem d_M_wasRead_111 : decode prog_10_method_26_code 111 = .ok (.aload_n 0, 1) := by decide +kernel
theorem d_M_wasRead_112 : decode prog_10_method_26_code 112 = .ok (.iload_n 2, 1) := by decide +kernel
theorem d_M_wasRead_113 : decode prog_10_method_26_code 113 = .ok (.iload_n 3, 1) := by decide +kernel
theorem d_M_wasRead_114 : decode prog_10_method_26_code 114 = .ok (.invokevirtual 181, 3) := by decide +kernel
theorem d_M_wasRead_117 : decode prog_10_method_26_code 117 = .ok (.goto (-115), 3) := by decide +kernel
theorem d_M_wasRead_120 : decode prog_10_method_26_code 120 = .ok (.return_, 1) := by decide +kernel
def b_M_wasRead_117 (post : zH → Prop) (rc : Int32 → zH → Prop) (l1 : Int32) (h : zH) : Prop := rc (l1) h
def b_M_wasRead_67 (post : zH → Prop) (rc : Int32 → zH → Prop) (l2 : Int32) (l3 : Int32) (s0 : Int32) (h : zH) : Prop := ((¬ s0 = 0 → (∀ h1 : zH, h1 = zi h 39 28 ((h.1 39 28) - 1) → wp_M_rank (l2) h1 (fun (r2 : Int32) (h3 : zH) => ((¬ r2 = 6 → (∀ h4 : zH, h4 = zi h3 39 31 ((h3.1 39 31) - 1) → wp_M_doOne (l2) (l3) h4 (fun (h6 : zH) => b_M_wasRead_117 post rc (s0) h6))) ∧ (r2 = 6 → wp_M_doTwo (l2) (l3) h3 (fun (h8 : zH) => b_M_wasRead_117 post rc (s0) h8)))))) ∧ (s0 = 0 → post h))
def b_M_wasRead_62 (post : zH → Prop) (rc : Int32 → zH → Prop) (l2 : Int32) (l3 : Int32) (h : zH) : Prop := b_M_wasRead_67 post rc (l2) (l3) (1) h
def b_M_wasRead_40 (post : zH → Prop) (rc : Int32 → zH → Prop) (l2 : Int32) (s0 : Int32) (h : zH) : Prop := ((l2 = 100 → b_M_wasRead_62 post rc (l2) (s0) h) ∧ (¬ l2 = 100 → ((l2 = 33 → b_M_wasRead_62 post rc (l2) (s0) h) ∧ (¬ l2 = 33 → wp_M_rank (l2) h (fun (r9 : Int32) (h10 : zH) => ((¬ r9 = 6 → b_M_wasRead_67 post rc (l2) (s0) (0) h10) ∧ (r9 = 6 → b_M_wasRead_62 post rc (l2) (s0) h10)))))))
def b_M_wasRead_120 (post : zH → Prop) (h : zH) : Prop := post h
def b_M_wasRead_2 (post : zH → Prop) : Nat → Int32 → zH → Prop
  | 0, _, _ => False
  | n + 1, l1, h => (fun rc : Int32 → zH → Prop => ((l1 = 0 → b_M_wasRead_120 post  h) ∧ (¬ l1 = 0 → ((¬ (h.1 39 24) = 0 → b_M_wasRead_120 post  h) ∧ ((h.1 39 24) = 0 → wp_M_topOp  h (fun (r11 : Int32) (h12 : zH) => ((¬ (h12.1 39 28) = 0 → (vp_in ((h12.1 39 28) - 1) 300 ∧ b_M_wasRead_40 post rc (r11) ((h12.1 55 (((h12.1 39 28) - 1) : Int32).toNatClampNeg)) h12)) ∧ ((h12.1 39 28) = 0 → b_M_wasRead_40 post rc (r11) (0) h12)))))))) (b_M_wasRead_2 post n)
def wp_M_wasRead (h : zH) (post : zH → Prop) : Prop := (∃ n : Nat, b_M_wasRead_2 post n (1) h)
set_option maxRecDepth 100000 in
set_option maxHeartbeats 4000000 in
theorem w_M_wasRead_117 {l : Launch} {E : zE} {G : (Nat → Prop) → State → Prop} {p : Program} {e : Env} {s : State} {m : MethodId} {args : Array Value} {below : List Frame} {meth : Method} {c : Code} {A : Nat → Prop} {post : zH → Prop} (hG : xGG E G) (C : zCx p s m args meth c E G A 3 90 prog_10_method_26_code 4 cn_M) (hr : meth.sig.returnType = none) {rc : Int32 → zH → Prop} (hrc : ∀ (l1 : Int32) (h : zH), rc l1 h → zGo p l e s m args below meth c E A 3 90 4 (zPv post) h 2 [some (.ref (E.2.2.1 39)), some (.int l1), none, none] []) (l1 : Int32) (h : zH) (hw : b_M_wasRead_117 post rc l1 h) : zGo p l e s m args below meth c E A 3 90 4 (zPv post) h 117 [some (.ref (E.2.2.1 39)), some (.int l1), none, none] [] := by
  unfold b_M_wasRead_117 at hw
  refine z_goto C (tgt := 2) d_M_wasRead_117 (by decide) ?_
  refine z_le (lv2 := [some (.ref (E.2.2.1 39)), some (.int l1), none, none]) (⟨rfl, ⟨rfl, trivial⟩⟩) ?_
  exact hrc _ _ hw
set_option maxRecDepth 100000 in
set_option maxHeartbeats 4000000 in
theorem w_M_wasRead_67 {l : Launch} {E : zE} {G : (Nat → Prop) → State → Prop} {p : Program} {e : Env} {s : State} {m : MethodId} {args : Array Value} {below : List Frame} {meth : Method} {c : Code} {A : Nat → Prop} {post : zH → Prop} (hG : xGG E G) (C : zCx p s m args meth c E G A 3 90 prog_10_method_26_code 4 cn_M) (hr : meth.sig.returnType = none) {rc : Int32 → zH → Prop} (hrc : ∀ (l1 : Int32) (h : zH), rc l1 h → zGo p l e s m args below meth c E A 3 90 4 (zPv post) h 2 [some (.ref (E.2.2.1 39)), some (.int l1), none, none] []) (l2 : Int32) (l3 : Int32) (s0 : Int32) (h : zH) (hw : b_M_wasRead_67 post rc l2 l3 s0 h) : zGo p l e s m args below meth c E A 3 90 4 (zPv post) h 67 [some (.ref (E.2.2.1 39)), none, some (.int l2), some (.int l3)] [.int s0] := by
  unfold b_M_wasRead_67 at hw
  refine z_istore_n C (i := 1) d_M_wasRead_67 rfl (by decide) rfl ?_
  refine z_iload_n C (i := 1) d_M_wasRead_68 rfl rfl ?_
  refine z_if_ne C (tgt := 73) d_M_wasRead_69 (by decide) (fun q => ?_) (fun q => ?_)
  · replace hw := hw.1 q
    refine z_aload_n C (i := 0) d_M_wasRead_73 rfl rfl ?_
    refine z_dup C d_M_wasRead_74 rfl ?_
    refine z_getI C (ci := 8) (j := 28) (F := cf_M) (by decide) rfl rfl in_M (by decide) fl_M_128 rfl d_M_wasRead_75 ?_
    refine z_iconst C (v := 1) d_M_wasRead_78 (by decide) ?_
    refine z_isub C d_M_wasRead_79 ?_
    refine z_putI C (ci := 8) (j := 28) (F := cf_M) ct_M (by decide) rfl rfl in_M ty_M nm_M (by decide) fl_M_128 rfl (by decide +kernel) rfl d_M_wasRead_80 (fun h1 eh1 => ?_)
    replace hw := hw h1 eh1
    refine z_iload_n C (i := 2) d_M_wasRead_83 rfl rfl ?_
    refine z_callSi ⟨xN_ok, hG.1⟩ zT_good C (t_M_rank hG hw) ol_M_157 (by decide) (by decide) pl_M_rank rfl rfl (Nat.le_of_ble_eq_true rfl) d_M_wasRead_84 (fun r2 h3 hw => ?_)
    refine z_bipush C (v := 6) d_M_wasRead_87 (by decide) ?_
    refine z_icmp_ne C (tgt := 101) d_M_wasRead_89 (by decide) (fun q => ?_) (fun q => ?_)
    · replace hw := hw.1 q
      refine z_aload_n C (i := 0) d_M_wasRead_101 rfl rfl ?_
      refine z_dup C d_M_wasRead_102 rfl ?_
      refine z_getI C (ci := 8) (j := 31) (F := cf_M) (by decide) rfl rfl in_M (by decide) fl_M_131 rfl d_M_wasRead_103 ?_
      refine z_iconst C (v := 1) d_M_wasRead_106 (by decide) ?_
      refine z_isub C d_M_wasRead_107 ?_
      refine z_putI C (ci := 8) (j := 31) (F := cf_M) ct_M (by decide) rfl rfl in_M ty_M nm_M (by decide) fl_M_131 rfl (by decide +kernel) rfl d_M_wasRead_108 (fun h4 eh4 => ?_)
      replace hw := hw h4 eh4
      refine z_aload_n C (i := 0) d_M_wasRead_111 rfl rfl ?_
      refine z_iload_n C (i := 2) d_M_wasRead_112 rfl rfl ?_
      refine z_iload_n C (i := 3) d_M_wasRead_113 rfl rfl ?_
      refine z_callVv ⟨xN_ok, hG.1⟩ zT_good C (t_M_doOne hG hw) ol_M_181 (by decide) rfl rfl (by decide) (by decide) pl_M_doOne rfl rfl (Nat.le_of_ble_eq_true rfl) d_M_wasRead_114 (fun h6 hw => ?_)
      refine z_le (lv2 := [some (.ref (E.2.2.1 39)), some (.int s0), none, none]) (⟨rfl, ⟨rfl, trivial⟩⟩) ?_
      exact w_M_wasRead_117 hG C hr hrc _ _ hw
    · replace hw := hw.2 q
      refine z_aload_n C (i := 0) d_M_wasRead_92 rfl rfl ?_
      refine z_iload_n C (i := 2) d_M_wasRead_93 rfl rfl ?_
      refine z_iload_n C (i := 3) d_M_wasRead_94 rfl rfl ?_
      refine z_callVv ⟨xN_ok, hG.1⟩ zT_good C (t_M_doTwo hG hw) ol_M_178 (by decide) rfl rfl (by decide) (by decide) pl_M_doTwo rfl rfl (Nat.le_of_ble_eq_true rfl) d_M_wasRead_95 (fun h8 hw => ?_)
      refine z_goto C (tgt := 117) d_M_wasRead_98 (by decide) ?_
      refine z_le (lv2 := [some (.ref (E.2.2.1 39)), some (.int s0), none, none]) (⟨rfl, ⟨rfl, trivial⟩⟩) ?_
      exact w_M_wasRead_117 hG C hr hrc _ _ hw
  · replace hw := hw.2 q
    exact z_vret C hr d_M_wasRead_72 hw
set_option maxRecDepth 100000 in
set_option maxHeartbeats 4000000 in
theorem w_M_wasRead_62 {l : Launch} {E : zE} {G : (Nat → Prop) → State → Prop} {p : Program} {e : Env} {s : State} {m : MethodId} {args : Array Value} {below : List Frame} {meth : Method} {c : Code} {A : Nat → Prop} {post : zH → Prop} (hG : xGG E G) (C : zCx p s m args meth c E G A 3 90 prog_10_method_26_code 4 cn_M) (hr : meth.sig.returnType = none) {rc : Int32 → zH → Prop} (hrc : ∀ (l1 : Int32) (h : zH), rc l1 h → zGo p l e s m args below meth c E A 3 90 4 (zPv post) h 2 [some (.ref (E.2.2.1 39)), some (.int l1), none, none] []) (l2 : Int32) (l3 : Int32) (h : zH) (hw : b_M_wasRead_62 post rc l2 l3 h) : zGo p l e s m args below meth c E A 3 90 4 (zPv post) h 62 [some (.ref (E.2.2.1 39)), none, some (.int l2), some (.int l3)] [] := by
  unfold b_M_wasRead_62 at hw
  refine z_iconst C (v := 1) d_M_wasRead_62 (by decide) ?_
  refine z_goto C (tgt := 67) d_M_wasRead_63 (by decide) ?_
  refine z_le (lv2 := [some (.ref (E.2.2.1 39)), none, some (.int l2), some (.int l3)]) (⟨rfl, ⟨rfl, ⟨rfl, trivial⟩⟩⟩) ?_
  exact w_M_wasRead_67 hG C hr hrc _ _ _ _ hw
set_option maxRecDepth 100000 in
set_option maxHeartbeats 4000000 in
theorem w_M_wasRead_40 {l : Launch} {E : zE} {G : (Nat → Prop) → State → Prop} {p : Program} {e : Env} {s : State} {m : MethodId} {args : Array Value} {below : List Frame} {meth : Method} {c : Code} {A : Nat → Prop} {post : zH → Prop} (hG : xGG E G) (C : zCx p s m args meth c E G A 3 90 prog_10_method_26_code 4 cn_M) (hr : meth.sig.returnType = none) {rc : Int32 → zH → Prop} (hrc : ∀ (l1 : Int32) (h : zH), rc l1 h → zGo p l e s m args below meth c E A 3 90 4 (zPv post) h 2 [some (.ref (E.2.2.1 39)), some (.int l1), none, none] []) (l2 : Int32) (s0 : Int32) (h : zH) (hw : b_M_wasRead_40 post rc l2 s0 h) : zGo p l e s m args below meth c E A 3 90 4 (zPv post) h 40 [some (.ref (E.2.2.1 39)), none, some (.int l2), none] [.int s0] := by
  unfold b_M_wasRead_40 at hw
  refine z_istore_n C (i := 3) d_M_wasRead_40 rfl (by decide) rfl ?_
  refine z_iload_n C (i := 2) d_M_wasRead_41 rfl rfl ?_
  refine z_bipush C (v := 100) d_M_wasRead_42 (by decide) ?_
  refine z_icmp_eq C (tgt := 62) d_M_wasRead_44 (by decide) (fun q => ?_) (fun q => ?_)
  · replace hw := hw.1 q
    refine z_le (lv2 := [some (.ref (E.2.2.1 39)), none, some (.int l2), some (.int s0)]) (⟨rfl, ⟨rfl, ⟨rfl, trivial⟩⟩⟩) ?_
    exact w_M_wasRead_62 hG C hr hrc _ _ _ hw
  · replace hw := hw.2 q
    refine z_iload_n C (i := 2) d_M_wasRead_47 rfl rfl ?_
    refine z_bipush C (v := 33) d_M_wasRead_48 (by decide) ?_
    refine z_icmp_eq C (tgt := 62) d_M_wasRead_50 (by decide) (fun q => ?_) (fun q => ?_)
    · replace hw := hw.1 q
      refine z_le (lv2 := [some (.ref (E.2.2.1 39)), none, some (.int l2), some (.int s0)]) (⟨rfl, ⟨rfl, ⟨rfl, trivial⟩⟩⟩) ?_
      exact w_M_wasRead_62 hG C hr hrc _ _ _ hw
    · replace hw := hw.2 q
      refine z_iload_n C (i := 2) d_M_wasRead_53 rfl rfl ?_
      refine z_callSi ⟨xN_ok, hG.1⟩ zT_good C (t_M_rank hG hw) ol_M_157 (by decide) (by decide) pl_M_rank rfl rfl (Nat.le_of_ble_eq_true rfl) d_M_wasRead_54 (fun r9 h10 hw => ?_)
      refine z_bipush C (v := 6) d_M_wasRead_57 (by decide) ?_
      refine z_icmp_ne C (tgt := 66) d_M_wasRead_59 (by decide) (fun q => ?_) (fun q => ?_)
      · replace hw := hw.1 q
        refine z_iconst C (v := 0) d_M_wasRead_66 (by decide) ?_
        refine z_le (lv2 := [some (.ref (E.2.2.1 39)), none, some (.int l2), some (.int s0)]) (⟨rfl, ⟨rfl, ⟨rfl, trivial⟩⟩⟩) ?_
        exact w_M_wasRead_67 hG C hr hrc _ _ _ _ hw
      · replace hw := hw.2 q
        refine z_le (lv2 := [some (.ref (E.2.2.1 39)), none, some (.int l2), some (.int s0)]) (⟨rfl, ⟨rfl, ⟨rfl, trivial⟩⟩⟩) ?_
        exact w_M_wasRead_62 hG C hr hrc _ _ _ hw
set_option maxRecDepth 100000 in
set_option maxHeartbeats 4000000 in
theorem w_M_wasRead_120 {l : Launch} {E : zE} {G : (Nat → Prop) → State → Prop} {p : Program} {e : Env} {s : State} {m : MethodId} {args : Array Value} {below : List Frame} {meth : Method} {c : Code} {A : Nat → Prop} {post : zH → Prop} (hG : xGG E G) (C : zCx p s m args meth c E G A 3 90 prog_10_method_26_code 4 cn_M) (hr : meth.sig.returnType = none)  (h : zH) (hw : b_M_wasRead_120 post  h) : zGo p l e s m args below meth c E A 3 90 4 (zPv post) h 120 [none, none, none, none] [] := by
  unfold b_M_wasRead_120 at hw
  exact z_vret C hr d_M_wasRead_120 hw
set_option maxRecDepth 100000 in
set_option maxHeartbeats 4000000 in
theorem w_M_wasRead_2 {l : Launch} {E : zE} {G : (Nat → Prop) → State → Prop} {p : Program} {e : Env} {s : State} {m : MethodId} {args : Array Value} {below : List Frame} {meth : Method} {c : Code} {A : Nat → Prop} {post : zH → Prop} (hG : xGG E G) (C : zCx p s m args meth c E G A 3 90 prog_10_method_26_code 4 cn_M) (hr : meth.sig.returnType = none) : ∀ (n : Nat) (l1 : Int32) (h : zH), b_M_wasRead_2 post n l1 h → zGo p l e s m args below meth c E A 3 90 4 (zPv post) h 2 [some (.ref (E.2.2.1 39)), some (.int l1), none, none] [] := by
  intro n
  induction n with
  | zero => intro l1 h hw; exact False.elim hw
  | succ n hrc =>
    intro l1 h hw
    unfold b_M_wasRead_2 at hw
    refine z_iload_n C (i := 1) d_M_wasRead_2 rfl rfl ?_
    refine z_if_eq C (tgt := 120) d_M_wasRead_3 (by decide) (fun q => ?_) (fun q => ?_)
    · replace hw := hw.1 q
      refine z_le (lv2 := [none, none, none, none]) (trivial) ?_
      exact w_M_wasRead_120 hG C hr  _ hw
    · replace hw := hw.2 q
      refine z_aload_n C (i := 0) d_M_wasRead_6 rfl rfl ?_
      refine z_getI C (ci := 8) (j := 24) (F := cf_M) (by decide) rfl rfl in_M (by decide) fl_M_118 rfl d_M_wasRead_7 ?_
      refine z_if_ne C (tgt := 120) d_M_wasRead_10 (by decide) (fun q => ?_) (fun q => ?_)
      · replace hw := hw.1 q
        refine z_le (lv2 := [none, none, none, none]) (trivial) ?_
        exact w_M_wasRead_120 hG C hr  _ hw
      · replace hw := hw.2 q
        refine z_aload_n C (i := 0) d_M_wasRead_13 rfl rfl ?_
        refine z_callVi ⟨xN_ok, hG.1⟩ zT_good C (t_M_topOp hG hw) ol_M_175 (by decide) rfl rfl (by decide) (by decide) pl_M_topOp rfl rfl (Nat.le_of_ble_eq_true rfl) d_M_wasRead_14 (fun r11 h12 hw => ?_)
        refine z_istore_n C (i := 2) d_M_wasRead_17 rfl (by decide) rfl ?_
        refine z_aload_n C (i := 0) d_M_wasRead_18 rfl rfl ?_
        refine z_getI C (ci := 8) (j := 28) (F := cf_M) (by decide) rfl rfl in_M (by decide) fl_M_128 rfl d_M_wasRead_19 ?_
        refine z_if_ne C (tgt := 29) d_M_wasRead_22 (by decide) (fun q => ?_) (fun q => ?_)
        · replace hw := hw.1 q
          refine z_aload_n C (i := 0) d_M_wasRead_29 rfl rfl ?_
          refine z_getS C (ci := 8) (j := 26) (F := cf_M) (by decide) rfl rfl in_M (by decide) fl_M_56 rfl d_M_wasRead_30 ?_
          refine z_aload_n C (i := 0) d_M_wasRead_33 rfl rfl ?_
          refine z_getI C (ci := 8) (j := 28) (F := cf_M) (by decide) rfl rfl in_M (by decide) fl_M_128 rfl d_M_wasRead_34 ?_
          refine z_iconst C (v := 1) d_M_wasRead_37 (by decide) ?_
          refine z_isub C d_M_wasRead_38 ?_
          refine z_iald C (by decide) rfl hw.1 d_M_wasRead_39 ?_
          replace hw := hw.2
          refine z_le (lv2 := [some (.ref (E.2.2.1 39)), none, some (.int r11), none]) (⟨rfl, ⟨rfl, trivial⟩⟩) ?_
          exact w_M_wasRead_40 hG C hr hrc _ _ _ hw
        · replace hw := hw.2 q
          refine z_iconst C (v := 0) d_M_wasRead_25 (by decide) ?_
          refine z_goto C (tgt := 40) d_M_wasRead_26 (by decide) ?_
          refine z_le (lv2 := [some (.ref (E.2.2.1 39)), none, some (.int r11), none]) (⟨rfl, ⟨rfl, trivial⟩⟩) ?_
          exact w_M_wasRead_40 hG C hr hrc _ _ _ hw
set_option maxRecDepth 100000 in
set_option maxHeartbeats 4000000 in
theorem t_M_wasRead {l : Launch} {E : zE} {G : (Nat → Prop) → State → Prop} (hG : xGG E G) {h : zH} {post : zH → Prop} (hw : wp_M_wasRead  h post) : Ct l xX E xcl xN zT G 3 90 y_M_wasRead prog_10_method_26_code 4 none [.ref (E.2.2.1 39)] h (zPv post) := by
  unfold wp_M_wasRead at hw
  refine Ct.of (by decide) (Nat.le_of_ble_eq_true rfl) ?_
  intro p e s m below meth c A C hr
  refine z_lv (lv2 := [some (.ref (E.2.2.1 39)), none, none, none]) rfl ?_
  refine z_iconst C (v := 1) d_M_wasRead_0 (by decide) ?_
  refine z_istore_n C (i := 1) d_M_wasRead_1 rfl (by decide) rfl ?_
  refine z_le (lv2 := [some (.ref (E.2.2.1 39)), some (.int 1), none, none]) (⟨rfl, ⟨rfl, trivial⟩⟩) ?_
  obtain ⟨n, hw⟩ := hw
  exact w_M_wasRead_2 hG C hr n _ _ hw
theorem d_M_goesOn_0 : decode prog_10_method_30_code 0 = .ok (.aload_n 0, 1) := by decide +kernel
theorem d_M_goesOn_1 : decode prog_10_method_30_code 1 = .ok (.getfield 103, 3) := by decide +kernel
theorem d_M_goesOn_4 : decode prog_10_method_30_code 4 = .ok (.invokestatic 157, 3) := by decide +kernel
theorem d_M_goesOn_7 : decode prog_10_method_30_code 7 = .ok (.istore_n 1, 1) := by decide +kernel
theorem d_M_goesOn_8 : decode prog_10_method_30_code 8 = .ok (.iload_n 1, 1) := by decide +kernel
theorem d_M_goesOn_9 : decode prog_10_method_30_code 9 = .ok (.ifCond .le (82), 3) := by decide +kernel
theorem d_M_goesOn_12 : decode prog_10_method_30_code 12 = .ok (.iconst 0, 1) := by decide +kernel
theorem d_M_goesOn_13 : decode prog_10_method_30_code 13 = .ok (.istore_n 2, 1) := by decide +kernel
theorem d_M_goesOn_14 : decode prog_10_method_30_code 14 = .ok (.iload_n 1, 1) := by decide +kernel
theorem d_M_goesOn_15 : decode prog_10_method_30_code 15 = .ok (.iconst 4, 1) := by decide +kernel
theorem d_M_goesOn_16 : decode prog_10_method_30_code 16 = .ok (.if_icmp .ne (25), 3) := by decide +kernel
theorem d_M_goesOn_19 : decode prog_10_method_30_code 19 = .ok (.aload_n 0, 1) := by decide +kernel
theorem d_M_goesOn_20 : decode prog_10_method_30_code 20 = .ok (.iconst 5, 1) := by decide +kernel
theorem d_M_goesOn_21 : decode prog_10_method_30_code 21 = .ok (.invokevirtual 184, 3) := by decide +kernel
theorem d_M_goesOn_24 : decode prog_10_method_30_code 24 = .ok (.aload_n 0, 1) := by decide +kernel
theorem d_M_goesOn_25 : decode prog_10_method_30_code 25 = .ok (.invokevirtual 175, 3) := by decide +kernel
theorem d_M_goesOn_28 : decode prog_10_method_30_code 28 = .ok (.invokestatic 157, 3) := by decide +kernel
theorem d_M_goesOn_31 : decode prog_10_method_30_code 31 = .ok (.iconst 4, 1) := by decide +kernel
theorem d_M_goesOn_32 : decode prog_10_method_30_code 32 = .ok (.if_icmp .ne (7), 3) := by decide +kernel
theorem d_M_goesOn_35 : decode prog_10_method_30_code 35 = .ok (.iconst 1, 1) := by decide +kernel
theorem d_M_goesOn_36 : decode prog_10_method_30_code 36 = .ok (.goto (4), 3) := by decide +kernel
theorem d_M_goesOn_39 : decode prog_10_method_30_code 39 = .ok (.iconst 0, 1) := by decide +kernel
theorem d_M_goesOn_40 : decode prog_10_method_30_code 40 = .ok (.istore_n 2, 1) := by decide +kernel
theorem d_M_goesOn_41 : decode prog_10_method_30_code 41 = .ok (.aload_n 0, 1) := by decide +kernel
theorem d_M_goesOn_42 : decode prog_10_method_30_code 42 = .ok (.iload_n 1, 1) := by decide +kernel
theorem d_M_goesOn_43 : decode prog_10_method_30_code 43 = .ok (.invokevirtual 184, 3) := by decide +kernel
theorem d_M_goesOn_46 : decode prog_10_method_30_code 46 = .ok (.iload_n 2, 1) := by decide +kernel
theorem d_M_goesOn_47 : decode prog_10_method_30_code 47 = .ok (.ifCond .eq (23), 3) := by decide +kernel
theorem d_M_goesOn_50 : decode prog_10_method_30_code 50 = .ok (.aload_n 0, 1) := by decide +kernel
theorem d_M_goesOn_51 : decode prog_10_method_30_code 51 = .ok (.getfield 118, 3) := by decide +kernel
theorem d_M_goesOn_54 : decode prog_10_method_30_code 54 = .ok (.ifCond .ne (7), 3) := by decide +kernel
theorem d_M_goesOn_57 : decode prog_10_method_30_code 57 = .ok (.aload_n 0, 1) := by decide +kernel
theorem d_M_goesOn_58 : decode prog_10_method_30_code 58 = .ok (.invokevirtual 196, 3) := by decide +kernel
theorem d_M_goesOn_61 : decode prog_10_method_30_code 61 = .ok (.aload_n 0, 1) := by decide +kernel
theorem d_M_goesOn_62 : decode prog_10_method_30_code 62 = .ok (.iconst 1, 1) := by decide +kernel
theorem d_M_goesOn_63 : decode prog_10_method_30_code 63 = .ok (.aload_n 0, 1) := by decide +kernel
theorem d_M_goesOn_64 : decode prog_10_method_30_code 64 = .ok (.getfield 93, 3) := by decide +kernel
theorem d_M_goesOn_67 : decode prog_10_method_30_code 67 = .ok (.invokevirtual 124, 3) := by decide +kernel
theorem d_M_goesOn_70 : decode prog_10_method_30_code 70 = .ok (.aload_n 0, 1) := by decide +kernel
theorem d_M_goesOn_71 : decode prog_10_method_30_code 71 = .ok (.getfield 118, 3) := by decide +kernel
theorem d_M_goesOn_74 : decode prog_10_method_30_code 74 = .ok (.ifCond .ne (15), 3) := by decide +kernel
theorem d_M_goesOn_77 : decode prog_10_method_30_code 77 = .ok (.aload_n 0, 1) := by decide +kernel
theorem d_M_goesOn_78 : decode prog_10_method_30_code 78 = .ok (.aload_n 0, 1) := by decide +kernel
theorem d_M_goesOn_79 : decode prog_10_method_30_code 79 = .ok (.getfield 103, 3) := by decide +kernel
theorem d_M_goesOn_82 : decode prog_10_method_30_code 82 = .ok (.aload_n 0, 1) := by decide +kernel
theorem d_M_goesOn_83 : decode prog_10_method_30_code 83 = .ok (.getfield 93, 3) := by decide +kernel
theorem d_M_goesOn_86 : decode prog_10_method_30_code 86 = .ok (.invokevirtual 134, 3) := by decide +kernel
theorem d_M_goesOn_89 : decode prog_10_method_30_code 89 = .ok (.iconst 1, 1) := by decide +kernel
theorem d_M_goesOn_90 : decode prog_10_method_30_code 90 = .ok (.ireturn, 1) := by decide +kernel
theorem d_M_goesOn_91 : decode prog_10_method_30_code 91 = .ok (.aload_n 0, 1) := by decide +kernel
theorem d_M_goesOn_92 : decode prog_10_method_30_code 92 = .ok (.getfield 103, 3) := by decide +kernel
theorem d_M_goesOn_95 : decode prog_10_method_30_code 95 = .ok (.bipush (63), 2) := by decide +kernel
theorem d_M_goesOn_97 : decode prog_10_method_30_code 97 = .ok (.if_icmp .ne (23), 3) := by decide +kernel
theorem d_M_goesOn_100 : decode prog_10_method_30_code 100 = .ok (.aload_n 0, 1) := by decide +kernel
theorem d_M_goesOn_101 : decode prog_10_method_30_code 101 = .ok (.iconst 1, 1) := by decide +kernel
theorem d_M_goesOn_102 : decode prog_10_method_30_code 102 = .ok (.invokevirtual 184, 3) := by decide +kernel
theorem d_M_goesOn_105 : decode prog_10_method_30_code 105 = .ok (.aload_n 0, 1) := by decide +kernel
theorem d_M_goesOn_106 : decode prog_10_method_30_code 106 = .ok (.getfield 118, 3) := by decide +kernel
theorem d_M_goesOn_109 : decode prog_10_method_30_code 109 = .ok (.ifCond .ne (9), 3) := by decide +kernel
theorem d_M_goesOn_112 : decode prog_10_method_30_code 112 = .ok (.aload_n 0, 1) := by decide +kernel
theorem d_M_goesOn_113 : decode prog_10_method_30_code 113 = .ok (.bipush (63), 2) := by decide +kernel
theorem d_M_goesOn_115 : decode prog_10_method_30_code 115 = .ok (.invokevirtual 190, 3) := by decide +kernel
theorem d_M_goesOn_118 : decode prog_10_method_30_code 118 = .ok (.iconst 1, 1) := by decide +kernel
theorem d_M_goesOn_119 : decode prog_10_method_30_code 119 = .ok (.ireturn, 1) := by decide +kernel
theorem d_M_goesOn_120 : decode prog_10_method_30_code 120 = .ok (.aload_n 0, 1) := by decide +kernel
theorem d_M_goesOn_121 : decode prog_10_method_30_code 121 = .ok (.getfield 103, 3) := by decide +kernel
theorem d_M_goesOn_124 : decode prog_10_method_30_code 124 = .ok (.bipush (58), 2) := by decide +kernel
theorem d_M_goesOn_126 : decode prog_10_method_30_code 126 = .ok (.if_icmp .ne (98), 3) := by decide +kernel
theorem d_M_goesOn_129 : decode prog_10_method_30_code 129 = .ok (.aload_n 0, 1) := by decide +kernel
theorem d_M_goesOn_130 : decode prog_10_method_30_code 130 = .ok (.iconst 1, 1) := by decide +kernel
theorem d_M_goesOn_131 : decode prog_10_method_30_code 131 = .ok (.invokevirtual 184, 3) := by decide +kernel
theorem d_M_goesOn_134 : decode prog_10_method_30_code 134 = .ok (.aload_n 0, 1) := by decide +kernel
theorem d_M_goesOn_135 : decode prog_10_method_30_code 135 = .ok (.getfield 118, 3) := by decide +kernel
theorem d_M_goesOn_138 : decode prog_10_method_30_code 138 = .ok (.ifCond .ne (48), 3) := by decide +kernel
theorem d_M_goesOn_141 : decode prog_10_method_30_code 141 = .ok (.aload_n 0, 1) := by decide +kernel
theorem d_M_goesOn_142 : decode prog_10_method_30_code 142 = .ok (.invokevirtual 175, 3) := by decide +kernel
theorem d_M_goesOn_145 : decode prog_10_method_30_code 145 = .ok (.bipush (101), 2) := by decide +kernel
theorem d_M_goesOn_147 : decode prog_10_method_30_code 147 = .ok (.if_icmp .ne (39), 3) := by decide +kernel
theorem d_M_goesOn_150 : decode prog_10_method_30_code 150 = .ok (.aload_n 0, 1) := by decide +kernel
theorem d_M_goesOn_151 : decode prog_10_method_30_code 151 = .ok (.dup, 1) := by decide +kernel
theorem d_M_goesOn_152 : decode prog_10_method_30_code 152 = .ok (.getfield 128, 3) := by decide +kernel
theorem d_M_goesOn_155 : decode prog_10_method_30_code 155 = .ok (.iconst 1, 1) := by decide +kernel
theorem d_M_goesOn_156 : decode prog_10_method_30_code 156 = .ok (.isub, 1) := by decide +kernel
theorem d_M_goesOn_157 : decode prog_10_method_30_code 157 = .ok (.putfield 128, 3) := by decide +kernel
theorem d_M_goesOn_160 : decode prog_10_method_30_code 160 = .ok (.aload_n 0, 1) := by decide +kernel
theorem d_M_goesOn_161 : decode prog_10_method_30_code 161 = .ok (.dup, 1) := by decide +kernel
theorem d_M_goesOn_162 : decode prog_10_method_30_code 162 = .ok (.getfield 131, 3) := by decide +kernel
theorem d_M_goesOn_165 : decode prog_10_method_30_code 165 = .ok (.iconst 1, 1) := by decide +kernel
theorem d_M_goesOn_166 : decode prog_10_method_30_code 166 = .ok (.isub, 1) := by decide +kernel
theorem d_M_goesOn_167 : decode prog_10_method_30_code 167 = .ok (.putfield 131, 3) := by decide +kernel
theorem d_M_goesOn_170 : decode prog_10_method_30_code 170 = .ok (.aload_n 0, 1) := by decide +kernel
theorem d_M_goesOn_171 : decode prog_10_method_30_code 171 = .ok (.aload_n 0, 1) := by decide +kernel
theorem d_M_goesOn_172 : decode prog_10_method_30_code 172 = .ok (.getfield 56, 3) := by decide +kernel
theorem d_M_goesOn_175 : decode prog_10_method_30_code 175 = .ok (.aload_n 0, 1) := by decide +kernel
theorem d_M_goesOn_176 : decode prog_10_method_30_code 176 = .ok (.getfield 128, 3) := by decide +kernel
theorem d_M_goesOn_179 : decode prog_10_method_30_code 179 = .ok (.iaload, 1) := by decide +kernel
theorem d_M_goesOn_180 : decode prog_10_method_30_code 180 = .ok (.invokevirtual 187, 3) := by decide +kernel
theorem d_M_goesOn_183 : decode prog_10_method_30_code 183 = .ok (.goto (-49), 3) := by decide +kernel
theorem d_M_goesOn_186 : decode prog_10_method_30_code 186 = .ok (.aload_n 0, 1) := by decide +kernel
theorem d_M_goesOn_187 : decode prog_10_method_30_code 187 = .ok (.invokevirtual 175, 3) := by decide +kernel
theorem d_M_goesOn_190 : decode prog_10_method_30_code 190 = .ok (.bipush (63), 2) := by decide +kernel
theorem d_M_goesOn_192 : decode prog_10_method_30_code 192 = .ok (.if_icmp .ne (26), 3) := by decide +kernel
theorem d_M_goesOn_195 : decode prog_10_method_30_code 195 = .ok (.aload_n 0, 1) := by decide +kernel
theorem d_M_goesOn_196 : decode prog_10_method_30_code 196 = .ok (.getfield 118, 3) := by decide +kernel
theorem d_M_goesOn_199 : decode prog_10_method_30_code 199 = .ok (.ifCond .ne (19), 3) := by decide +kernel
theorem d_M_goesOn_202 : decode prog_10_method_30_code 202 = .ok (.aload_n 0, 1) := by decide +kernel
theorem d_M_goesOn_203 : decode prog_10_method_30_code 203 = .ok (.getfield 53, 3) := by decide +kernel
theorem d_M_goesOn_206 : decode prog_10_method_30_code 206 = .ok (.aload_n 0, 1) := by decide +kernel
theorem d_M_goesOn_207 : decode prog_10_method_30_code 207 = .ok (.getfield 128, 3) := by decide +kernel
theorem d_M_goesOn_210 : decode prog_10_method_30_code 210 = .ok (.iconst 1, 1) := by decide +kernel
theorem d_M_goesOn_211 : decode prog_10_method_30_code 211 = .ok (.isub, 1) := by decide +kernel
theorem d_M_goesOn_212 : decode prog_10_method_30_code 212 = .ok (.bipush (101), 2) := by decide +kernel
theorem d_M_goesOn_214 : decode prog_10_method_30_code 214 = .ok (.iastore, 1) := by decide +kernel
theorem d_M_goesOn_215 : decode prog_10_method_30_code 215 = .ok (.goto (7), 3) := by decide +kernel
theorem d_M_goesOn_218 : decode prog_10_method_30_code 218 = .ok (.aload_n 0, 1) := by decide +kernel
theorem d_M_goesOn_219 : decode prog_10_method_30_code 219 = .ok (.invokevirtual 199, 3) := by decide +kernel
theorem d_M_goesOn_222 : decode prog_10_method_30_code 222 = .ok (.iconst 1, 1) := by decide +kernel
theorem d_M_goesOn_223 : decode prog_10_method_30_code 223 = .ok (.ireturn, 1) := by decide +kernel
theorem d_M_goesOn_224 : decode prog_10_method_30_code 224 = .ok (.aload_n 0, 1) := by decide +kernel
theorem d_M_goesOn_225 : decode prog_10_method_30_code 225 = .ok (.invokevirtual 196, 3) := by decide +kernel
theorem d_M_goesOn_228 : decode prog_10_method_30_code 228 = .ok (.aload_n 0, 1) := by decide +kernel
theorem d_M_goesOn_229 : decode prog_10_method_30_code 229 = .ok (.getfield 118, 3) := by decide +kernel
theorem d_M_goesOn_232 : decode prog_10_method_30_code 232 = .ok (.ifCond .le (5), 3) := by decide +kernel
theorem d_M_goesOn_235 : decode prog_10_method_30_code 235 = .ok (.iconst 1, 1) := by decide +kernel
theorem d_M_goesOn_236 : decode prog_10_method_30_code 236 = .ok (.ireturn, 1) := by decide +kernel
theorem d_M_goesOn_237 : decode prog_10_method_30_code 237 = .ok (.aload_n 0, 1) := by decide +kernel
theorem d_M_goesOn_238 : decode prog_10_method_30_code 238 = .ok (.invokevirtual 175, 3) := by decide +kernel
theorem d_M_goesOn_241 : decode prog_10_method_30_code 241 = .ok (.istore_n 2, 1) := by decide +kernel
theorem d_M_goesOn_242 : decode prog_10_method_30_code 242 = .ok (.iload_n 2, 1) := by decide +kernel
theorem d_M_goesOn_243 : decode prog_10_method_30_code 243 = .ok (.iconst 4, 1) := by decide +kernel
theorem d_M_goesOn_244 : decode prog_10_method_30_code 244 = .ok (.if_icmp .eq (14), 3) := by decide +kernel
theorem d_M_goesOn_247 : decode prog_10_method_30_code 247 = .ok (.iload_n 2, 1) := by decide +kernel
theorem d_M_goesOn_248 : decode prog_10_method_30_code 248 = .ok (.iconst 5, 1) := by decide +kernel
theorem d_M_goesOn_249 : decode prog_10_method_30_code 249 = .ok (.if_icmp .eq (9), 3) := by decide +kernel
theorem d_M_goesOn_252 : decode prog_10_method_30_code 252 = .ok (.iload_n 2, 1) := by decide +kernel
theorem d_M_goesOn_253 : decode prog_10_method_30_code 253 = .ok (.bipush (6), 2) := by decide +kernel
theorem d_M_goesOn_255 : decode prog_10_method_30_code 255 = .ok (.if_icmp .ne (7), 3) := by decide +kernel
theorem d_M_goesOn_258 : decode prog_10_method_30_code 258 = .ok (.iconst 1, 1) := by decide +kernel
theorem d_M_goesOn_259 : decode prog_10_method_30_code 259 = .ok (.goto (4), 3) := by decide +kernel
theorem d_M_goesOn_262 : decode prog_10_method_30_code 262 = .ok (.iconst 0, 1) := by decide +kernel
theorem d_M_goesOn_263 : decode prog_10_method_30_code 263 = .ok (.istore_n 3, 1) := by decide +kernel
theorem d_M_goesOn_264 : decode prog_10_method_30_code 264 = .ok (.iload_n 3, 1) := by decide +kernel
theorem d_M_goesOn_265 : decode prog_10_method_30_code 265 = .ok (.ifCond .eq (32), 3) := by decide +kernel
theorem d_M_goesOn_268 : decode prog_10_method_30_code 268 = .ok (.aload_n 0, 1) := by decide +kernel
theorem d_M_goesOn_269 : decode prog_10_method_30_code 269 = .ok (.getfield 59, 3) := by decide +kernel
theorem d_M_goesOn_272 : decode prog_10_method_30_code 272 = .ok (.aload_n 0, 1) := by decide +kernel
theorem d_M_goesOn_273 : decode prog_10_method_30_code 273 = .ok (.getfield 128, 3) := by decide +kernel
theorem d_M_goesOn_276 : decode prog_10_method_30_code 276 = .ok (.iconst 1, 1) := by decide +kernel
theorem d_M_goesOn_277 : decode prog_10_method_30_code 277 = .ok (.isub, 1) := by decide +kernel
theorem d_M_goesOn_278 : decode prog_10_method_30_code 278 = .ok (.iaload, 1) := by decide +kernel
theorem d_M_goesOn_279 : decode prog_10_method_30_code 279 = .ok (.iload_n 2, 1) := by decide +kernel
theorem d_M_goesOn_280 : decode prog_10_method_30_code 280 = .ok (.bipush (6), 2) := by decide +kernel
theorem d_M_goesOn_282 : decode prog_10_method_30_code 282 = .ok (.if_icmp .ne (7), 3) := by decide +kernel
theorem d_M_goesOn_285 : decode prog_10_method_30_code 285 = .ok (.iconst 1, 1) := by decide +kernel
theorem d_M_goesOn_286 : decode prog_10_method_30_code 286 = .ok (.goto (4), 3) := by decide +kernel
theorem d_M_goesOn_289 : decode prog_10_method_30_code 289 = .ok (.iconst 2, 1) := by decide +kernel
theorem d_M_goesOn_290 : decode prog_10_method_30_code 290 = .ok (.if_icmp .ne (7), 3) := by decide +kernel
theorem d_M_goesOn_293 : decode prog_10_method_30_code 293 = .ok (.iconst 1, 1) := by decide +kernel
theorem d_M_goesOn_294 : decode prog_10_method_30_code 294 = .ok (.goto (4), 3) := by decide +kernel
theorem d_M_goesOn_297 : decode prog_10_method_30_code 297 = .ok (.iconst 0, 1) := by decide +kernel
theorem d_M_goesOn_298 : decode prog_10_method_30_code 298 = .ok (.istore 4, 2) := by decide +kernel
theorem d_M_goesOn_300 : decode prog_10_method_30_code 300 = .ok (.aload_n 0, 1) := by decide +kernel
theorem d_M_goesOn_301 : decode prog_10_method_30_code 301 = .ok (.getfield 103, 3) := by decide +kernel
theorem d_M_goesOn_304 : decode prog_10_method_30_code 304 = .ok (.bipush (44), 2) := by decide +kernel
theorem d_M_goesOn_306 : decode prog_10_method_30_code 306 = .ok (.if_icmp .ne (14), 3) := by decide +kernel
theorem d_M_goesOn_309 : decode prog_10_method_30_code 309 = .ok (.iload_n 3, 1) := by decide +kernel
theorem d_M_goesOn_310 : decode prog_10_method_30_code 310 = .ok (.ifCond .eq (10), 3) := by decide +kernel
theorem d_M_goesOn_313 : decode prog_10_method_30_code 313 = .ok (.iload 4, 2) := by decide +kernel
theorem d_M_goesOn_315 : decode prog_10_method_30_code 315 = .ok (.ifCond .ne (5), 3) := by decide +kernel
theorem d_M_goesOn_318 : decode prog_10_method_30_code 318 = .ok (.iconst 1, 1) := by decide +kernel
theorem d_M_goesOn_319 : decode prog_10_method_30_code 319 = .ok (.ireturn, 1) := by decide +kernel
theorem d_M_goesOn_320 : decode prog_10_method_30_code 320 = .ok (.aload_n 0, 1) := by decide +kernel
theorem d_M_goesOn_321 : decode prog_10_method_30_code 321 = .ok (.getfield 103, 3) := by decide +kernel
theorem d_M_goesOn_324 : decode prog_10_method_30_code 324 = .ok (.bipush (41), 2) := by decide +kernel
theorem d_M_goesOn_326 : decode prog_10_method_30_code 326 = .ok (.if_icmp .ne (40), 3) := by decide +kernel
theorem d_M_goesOn_329 : decode prog_10_method_30_code 329 = .ok (.iload_n 2, 1) := by decide +kernel
theorem d_M_goesOn_330 : decode prog_10_method_30_code 330 = .ok (.bipush (40), 2) := by decide +kernel
theorem d_M_goesOn_332 : decode prog_10_method_30_code 332 = .ok (.if_icmp .eq (8), 3) := by decide +kernel
theorem d_M_goesOn_335 : decode prog_10_method_30_code 335 = .ok (.iload 4, 2) := by decide +kernel
theorem d_M_goesOn_337 : decode prog_10_method_30_code 337 = .ok (.ifCond .eq (29), 3) := by decide +kernel
theorem d_M_goesOn_340 : decode prog_10_method_30_code 340 = .ok (.aload_n 0, 1) := by decide +kernel
theorem d_M_goesOn_341 : decode prog_10_method_30_code 341 = .ok (.dup, 1) := by decide +kernel
theorem d_M_goesOn_342 : decode prog_10_method_30_code 342 = .ok (.getfield 128, 3) := by decide +kernel
theorem d_M_goesOn_345 : decode prog_10_method_30_code 345 = .ok (.iconst 1, 1) := by decide +kernel
theorem d_M_goesOn_346 : decode prog_10_method_30_code 346 = .ok (.isub, 1) := by decide +kernel
theorem d_M_goesOn_347 : decode prog_10_method_30_code 347 = .ok (.putfield 128, 3) := by decide +kernel
theorem d_M_goesOn_350 : decode prog_10_method_30_code 350 = .ok (.aload_n 0, 1) := by decide +kernel
theorem d_M_goesOn_351 : decode prog_10_method_30_code 351 = .ok (.dup, 1) := by decide +kernel
theorem d_M_goesOn_352 : decode prog_10_method_30_code 352 = .ok (.getfield 131, 3) := by decide +kernel
theorem d_M_goesOn_355 : decode prog_10_method_30_code 355 = .ok (.iconst 1, 1) := by decide +kernel
theorem d_M_goesOn_356 : decode prog_10_method_30_code 356 = .ok (.isub, 1) := by decide +kernel
theorem d_M_goesOn_357 : decode prog_10_method_30_code 357 = .ok (.putfield 131, 3) := by decide +kernel
theorem d_M_goesOn_360 : decode prog_10_method_30_code 360 = .ok (.aload_n 0, 1) := by decide +kernel
theorem d_M_goesOn_361 : decode prog_10_method_30_code 361 = .ok (.invokevirtual 202, 3) := by decide +kernel
theorem d_M_goesOn_364 : decode prog_10_method_30_code 364 = .ok (.iconst 0, 1) := by decide +kernel
theorem d_M_goesOn_365 : decode prog_10_method_30_code 365 = .ok (.ireturn, 1) := by decide +kernel
theorem d_M_goesOn_366 : decode prog_10_method_30_code 366 = .ok (.aload_n 0, 1) := by decide +kernel
theorem d_M_goesOn_367 : decode prog_10_method_30_code 367 = .ok (.getfield 103, 3) := by decide +kernel
theorem d_M_goesOn_370 : decode prog_10_method_30_code 370 = .ok (.iconst 1, 1) := by decide +kernel
theorem d_M_goesOn_371 : decode prog_10_method_30_code 371 = .ok (.if_icmp .ne (12), 3) := by decide +kernel
theorem d_M_goesOn_374 : decode prog_10_method_30_code 374 = .ok (.aload_n 0, 1) := by decide +kernel
theorem d_M_goesOn_375 : decode prog_10_method_30_code 375 = .ok (.getfield 128, 3) := by decide +kernel
theorem d_M_goesOn_378 : decode prog_10_method_30_code 378 = .ok (.ifCond .ne (5), 3) := by decide +kernel
theorem d_M_goesOn_381 : decode prog_10_method_30_code 381 = .ok (.iconst 0, 1) := by decide +kernel
theorem d_M_goesOn_382 : decode prog_10_method_30_code 382 = .ok (.ireturn, 1) := by decide +kernel
theorem d_M_goesOn_383 : decode prog_10_method_30_code 383 = .ok (.aload_n 0, 1) := by decide +kernel
theorem d_M_goesOn_384 : decode prog_10_method_30_code 384 = .ok (.iconst 1, 1) := by decide +kernel
theorem d_M_goesOn_385 : decode prog_10_method_30_code 385 = .ok (.aload_n 0, 1) := by decide +kernel
theorem d_M_goesOn_386 : decode prog_10_method_30_code 386 = .ok (.getfield 93, 3) := by decide +kernel
theorem d_M_goesOn_389 : decode prog_10_method_30_code 389 = .ok (.invokevirtual 124, 3) := by decide +kernel
theorem d_M_goesOn_392 : decode prog_10_method_30_code 392 = .ok (.iconst 1, 1) := by decide +kernel
theorem d_M_goesOn_393 : decode prog_10_method_30_code 393 = .ok (.ireturn, 1) := by decide +kernel
def b_M_goesOn_89 (post : Int32 → zH → Prop) (h : zH) : Prop := post 1 h
def b_M_goesOn_70 (post : Int32 → zH → Prop) (h : zH) : Prop := ((¬ (h.1 39 24) = 0 → b_M_goesOn_89 post  h) ∧ ((h.1 39 24) = 0 → wp_M_hold ((h.1 39 8)) ((h.1 39 9)) h (fun (h2 : zH) => b_M_goesOn_89 post  h2)))
def b_M_goesOn_61 (post : Int32 → zH → Prop) (h : zH) : Prop := wp_M_bad (1) ((h.1 39 9)) h (fun (h4 : zH) => b_M_goesOn_70 post  h4)
def b_M_goesOn_41 (post : Int32 → zH → Prop) (l1 : Int32) (l2 : Int32) (h : zH) : Prop := wp_M_doAll (l1) h (fun (h6 : zH) => ((l2 = 0 → b_M_goesOn_70 post  h6) ∧ (¬ l2 = 0 → ((¬ (h6.1 39 24) = 0 → b_M_goesOn_61 post  h6) ∧ ((h6.1 39 24) = 0 → wp_M_termEnds  h6 (fun (h8 : zH) => b_M_goesOn_61 post  h8))))))
def b_M_goesOn_40 (post : Int32 → zH → Prop) (l1 : Int32) (s0 : Int32) (h : zH) : Prop := b_M_goesOn_41 post (l1) (s0) h
def b_M_goesOn_118 (post : Int32 → zH → Prop) (h : zH) : Prop := post 1 h
def b_M_goesOn_222 (post : Int32 → zH → Prop) (h : zH) : Prop := post 1 h
def b_M_goesOn_218 (post : Int32 → zH → Prop) (h : zH) : Prop := wp_M_termFault  h (fun (h10 : zH) => b_M_goesOn_222 post  h10)
def b_M_goesOn_186 (post : Int32 → zH → Prop) (h : zH) : Prop := wp_M_topOp  h (fun (r11 : Int32) (h12 : zH) => ((¬ r11 = 63 → b_M_goesOn_218 post  h12) ∧ (r11 = 63 → ((¬ (h12.1 39 24) = 0 → b_M_goesOn_218 post  h12) ∧ ((h12.1 39 24) = 0 → (vp_in ((h12.1 39 28) - 1) 300 ∧ ∀ h13 : zH, h13 = zi h12 54 (((h12.1 39 28) - 1) : Int32).toNatClampNeg 101 → b_M_goesOn_222 post  h13))))))
def b_M_goesOn_134 (post : Int32 → zH → Prop) : Nat → zH → Prop
  | 0, _ => False
  | n + 1, h => (fun rc : zH → Prop => ((¬ (h.1 39 24) = 0 → b_M_goesOn_186 post  h) ∧ ((h.1 39 24) = 0 → wp_M_topOp  h (fun (r14 : Int32) (h15 : zH) => ((¬ r14 = 101 → b_M_goesOn_186 post  h15) ∧ (r14 = 101 → (∀ h16 : zH, h16 = zi h15 39 28 ((h15.1 39 28) - 1) → (∀ h17 : zH, h17 = zi h16 39 31 ((h16.1 39 31) - 1) → (vp_in (h17.1 39 28) 300 ∧ wp_M_doChoice ((h17.1 55 ((h17.1 39 28) : Int32).toNatClampNeg)) h17 (fun (h19 : zH) => rc  h19)))))))))) (b_M_goesOn_134 post n)
def b_M_goesOn_340 (post : Int32 → zH → Prop) (h : zH) : Prop := (∀ h20 : zH, h20 = zi h 39 28 ((h.1 39 28) - 1) → (∀ h21 : zH, h21 = zi h20 39 31 ((h20.1 39 31) - 1) → wp_M_wasRead  h21 (fun (h23 : zH) => post 0 h23)))
def b_M_goesOn_383 (post : Int32 → zH → Prop) (h : zH) : Prop := wp_M_bad (1) ((h.1 39 9)) h (fun (h25 : zH) => post 1 h25)
def b_M_goesOn_366 (post : Int32 → zH → Prop) (h : zH) : Prop := ((¬ (h.1 39 8) = 1 → b_M_goesOn_383 post  h) ∧ ((h.1 39 8) = 1 → ((¬ (h.1 39 28) = 0 → b_M_goesOn_383 post  h) ∧ ((h.1 39 28) = 0 → post 0 h))))
def b_M_goesOn_320 (post : Int32 → zH → Prop) (l2 : Int32) (l4 : Int32) (h : zH) : Prop := ((¬ (h.1 39 8) = 41 → b_M_goesOn_366 post  h) ∧ ((h.1 39 8) = 41 → ((l2 = 40 → b_M_goesOn_340 post  h) ∧ (¬ l2 = 40 → ((l4 = 0 → b_M_goesOn_366 post  h) ∧ (¬ l4 = 0 → b_M_goesOn_340 post  h))))))
def b_M_goesOn_298 (post : Int32 → zH → Prop) (l2 : Int32) (l3 : Int32) (s0 : Int32) (h : zH) : Prop := ((¬ (h.1 39 8) = 44 → b_M_goesOn_320 post (l2) (s0) h) ∧ ((h.1 39 8) = 44 → ((l3 = 0 → b_M_goesOn_320 post (l2) (s0) h) ∧ (¬ l3 = 0 → ((¬ s0 = 0 → b_M_goesOn_320 post (l2) (s0) h) ∧ (s0 = 0 → post 1 h))))))
def b_M_goesOn_297 (post : Int32 → zH → Prop) (l2 : Int32) (l3 : Int32) (h : zH) : Prop := b_M_goesOn_298 post (l2) (l3) (0) h
def b_M_goesOn_290 (post : Int32 → zH → Prop) (l2 : Int32) (l3 : Int32) (s0 : Int32) (s1 : Int32) (h : zH) : Prop := ((¬ s1 = s0 → b_M_goesOn_297 post (l2) (l3) h) ∧ (s1 = s0 → b_M_goesOn_298 post (l2) (l3) (1) h))
def b_M_goesOn_263 (post : Int32 → zH → Prop) (l2 : Int32) (s0 : Int32) (h : zH) : Prop := ((s0 = 0 → b_M_goesOn_297 post (l2) (s0) h) ∧ (¬ s0 = 0 → (vp_in ((h.1 39 28) - 1) 300 ∧ ((¬ l2 = 6 → b_M_goesOn_290 post (l2) (s0) (2) ((h.1 56 (((h.1 39 28) - 1) : Int32).toNatClampNeg)) h) ∧ (l2 = 6 → b_M_goesOn_290 post (l2) (s0) (1) ((h.1 56 (((h.1 39 28) - 1) : Int32).toNatClampNeg)) h)))))
def b_M_goesOn_258 (post : Int32 → zH → Prop) (l2 : Int32) (h : zH) : Prop := b_M_goesOn_263 post (l2) (1) h
def wp_M_goesOn (h : zH) (post : Int32 → zH → Prop) : Prop := wp_M_rank ((h.1 39 8)) h (fun (r26 : Int32) (h27 : zH) => ((r26 ≤ 0 → ((¬ (h27.1 39 8) = 63 → ((¬ (h27.1 39 8) = 58 → wp_M_termEnds  h27 (fun (h29 : zH) => (((h29.1 39 24) ≤ 0 → wp_M_topOp  h29 (fun (r30 : Int32) (h31 : zH) => ((r30 = 4 → b_M_goesOn_258 post (r30) h31) ∧ (¬ r30 = 4 → ((r30 = 5 → b_M_goesOn_258 post (r30) h31) ∧ (¬ r30 = 5 → ((¬ r30 = 6 → b_M_goesOn_263 post (r30) (0) h31) ∧ (r30 = 6 → b_M_goesOn_258 post (r30) h31)))))))) ∧ (¬ (h29.1 39 24) ≤ 0 → post 1 h29)))) ∧ ((h27.1 39 8) = 58 → wp_M_doAll (1) h27 (fun (h33 : zH) => (∃ n : Nat, b_M_goesOn_134 post n  h33))))) ∧ ((h27.1 39 8) = 63 → wp_M_doAll (1) h27 (fun (h35 : zH) => ((¬ (h35.1 39 24) = 0 → b_M_goesOn_118 post  h35) ∧ ((h35.1 39 24) = 0 → wp_M_enter (63) h35 (fun (h37 : zH) => b_M_goesOn_118 post  h37))))))) ∧ (¬ r26 ≤ 0 → ((¬ r26 = 4 → b_M_goesOn_41 post (r26) (0) h27) ∧ (r26 = 4 → wp_M_doAll (5) h27 (fun (h39 : zH) => wp_M_topOp  h39 (fun (r40 : Int32) (h41 : zH) => wp_M_rank (r40) h41 (fun (r42 : Int32) (h43 : zH) => ((¬ r42 = 4 → b_M_goesOn_40 post (r26) (0) h43) ∧ (r42 = 4 → b_M_goesOn_40 post (r26) (1) h43))))))))))
set_option maxRecDepth 100000 in
set_option maxHeartbeats 4000000 in
theorem w_M_goesOn_89 {l : Launch} {E : zE} {G : (Nat → Prop) → State → Prop} {p : Program} {e : Env} {s : State} {m : MethodId} {args : Array Value} {below : List Frame} {meth : Method} {c : Code} {A : Nat → Prop} {post : Int32 → zH → Prop} (hG : xGG E G) (C : zCx p s m args meth c E G A 6 153 prog_10_method_30_code 5 cn_M) (hr : meth.sig.returnType = (some .boolean))  (h : zH) (hw : b_M_goesOn_89 post  h) : zGo p l e s m args below meth c E A 6 153 5 (zPi post) h 89 [none, none, none, none, none] [] := by
  unfold b_M_goesOn_89 at hw
  refine z_iconst C (v := 1) d_M_goesOn_89 (by decide) ?_
  exact z_zret C hr rfl d_M_goesOn_90 hw
set_option maxRecDepth 100000 in
set_option maxHeartbeats 4000000 in
theorem w_M_goesOn_70 {l : Launch} {E : zE} {G : (Nat → Prop) → State → Prop} {p : Program} {e : Env} {s : State} {m : MethodId} {args : Array Value} {below : List Frame} {meth : Method} {c : Code} {A : Nat → Prop} {post : Int32 → zH → Prop} (hG : xGG E G) (C : zCx p s m args meth c E G A 6 153 prog_10_method_30_code 5 cn_M) (hr : meth.sig.returnType = (some .boolean))  (h : zH) (hw : b_M_goesOn_70 post  h) : zGo p l e s m args below meth c E A 6 153 5 (zPi post) h 70 [some (.ref (E.2.2.1 39)), none, none, none, none] [] := by
  unfold b_M_goesOn_70 at hw
  refine z_aload_n C (i := 0) d_M_goesOn_70 rfl rfl ?_
  refine z_getI C (ci := 8) (j := 24) (F := cf_M) (by decide) rfl rfl in_M (by decide) fl_M_118 rfl d_M_goesOn_71 ?_
  refine z_if_ne C (tgt := 89) d_M_goesOn_74 (by decide) (fun q => ?_) (fun q => ?_)
  · replace hw := hw.1 q
    refine z_le (lv2 := [none, none, none, none, none]) (trivial) ?_
    exact w_M_goesOn_89 hG C hr  _ hw
  · replace hw := hw.2 q
    refine z_aload_n C (i := 0) d_M_goesOn_77 rfl rfl ?_
    refine z_aload_n C (i := 0) d_M_goesOn_78 rfl rfl ?_
    refine z_getI C (ci := 8) (j := 8) (F := cf_M) (by decide) rfl rfl in_M (by decide) fl_M_103 rfl d_M_goesOn_79 ?_
    refine z_aload_n C (i := 0) d_M_goesOn_82 rfl rfl ?_
    refine z_getI C (ci := 8) (j := 9) (F := cf_M) (by decide) rfl rfl in_M (by decide) fl_M_93 rfl d_M_goesOn_83 ?_
    refine z_callVv ⟨xN_ok, hG.1⟩ zT_good C (t_M_hold hG hw) ol_M_134 (by decide) rfl rfl (by decide) (by decide) pl_M_hold rfl rfl (Nat.le_of_ble_eq_true rfl) d_M_goesOn_86 (fun h2 hw => ?_)
    refine z_le (lv2 := [none, none, none, none, none]) (trivial) ?_
    exact w_M_goesOn_89 hG C hr  _ hw
set_option maxRecDepth 100000 in
set_option maxHeartbeats 4000000 in
theorem w_M_goesOn_61 {l : Launch} {E : zE} {G : (Nat → Prop) → State → Prop} {p : Program} {e : Env} {s : State} {m : MethodId} {args : Array Value} {below : List Frame} {meth : Method} {c : Code} {A : Nat → Prop} {post : Int32 → zH → Prop} (hG : xGG E G) (C : zCx p s m args meth c E G A 6 153 prog_10_method_30_code 5 cn_M) (hr : meth.sig.returnType = (some .boolean))  (h : zH) (hw : b_M_goesOn_61 post  h) : zGo p l e s m args below meth c E A 6 153 5 (zPi post) h 61 [some (.ref (E.2.2.1 39)), none, none, none, none] [] := by
  unfold b_M_goesOn_61 at hw
  refine z_aload_n C (i := 0) d_M_goesOn_61 rfl rfl ?_
  refine z_iconst C (v := 1) d_M_goesOn_62 (by decide) ?_
  refine z_aload_n C (i := 0) d_M_goesOn_63 rfl rfl ?_
  refine z_getI C (ci := 8) (j := 9) (F := cf_M) (by decide) rfl rfl in_M (by decide) fl_M_93 rfl d_M_goesOn_64 ?_
  refine z_callVv ⟨xN_ok, hG.1⟩ zT_good C (t_M_bad hG hw) ol_M_124 (by decide) rfl rfl (by decide) (by decide) pl_M_bad rfl rfl (Nat.le_of_ble_eq_true rfl) d_M_goesOn_67 (fun h4 hw => ?_)
  refine z_le (lv2 := [some (.ref (E.2.2.1 39)), none, none, none, none]) (⟨rfl, trivial⟩) ?_
  exact w_M_goesOn_70 hG C hr  _ hw
set_option maxRecDepth 100000 in
set_option maxHeartbeats 4000000 in
theorem w_M_goesOn_41 {l : Launch} {E : zE} {G : (Nat → Prop) → State → Prop} {p : Program} {e : Env} {s : State} {m : MethodId} {args : Array Value} {below : List Frame} {meth : Method} {c : Code} {A : Nat → Prop} {post : Int32 → zH → Prop} (hG : xGG E G) (C : zCx p s m args meth c E G A 6 153 prog_10_method_30_code 5 cn_M) (hr : meth.sig.returnType = (some .boolean))  (l1 : Int32) (l2 : Int32) (h : zH) (hw : b_M_goesOn_41 post l1 l2 h) : zGo p l e s m args below meth c E A 6 153 5 (zPi post) h 41 [some (.ref (E.2.2.1 39)), some (.int l1), some (.int l2), none, none] [] := by
  unfold b_M_goesOn_41 at hw
  refine z_aload_n C (i := 0) d_M_goesOn_41 rfl rfl ?_
  refine z_iload_n C (i := 1) d_M_goesOn_42 rfl rfl ?_
  refine z_callVv ⟨xN_ok, hG.1⟩ zT_good C (t_M_doAll hG hw) ol_M_184 (by decide) rfl rfl (by decide) (by decide) pl_M_doAll rfl rfl (Nat.le_of_ble_eq_true rfl) d_M_goesOn_43 (fun h6 hw => ?_)
  refine z_iload_n C (i := 2) d_M_goesOn_46 rfl rfl ?_
  refine z_if_eq C (tgt := 70) d_M_goesOn_47 (by decide) (fun q => ?_) (fun q => ?_)
  · replace hw := hw.1 q
    refine z_le (lv2 := [some (.ref (E.2.2.1 39)), none, none, none, none]) (⟨rfl, trivial⟩) ?_
    exact w_M_goesOn_70 hG C hr  _ hw
  · replace hw := hw.2 q
    refine z_aload_n C (i := 0) d_M_goesOn_50 rfl rfl ?_
    refine z_getI C (ci := 8) (j := 24) (F := cf_M) (by decide) rfl rfl in_M (by decide) fl_M_118 rfl d_M_goesOn_51 ?_
    refine z_if_ne C (tgt := 61) d_M_goesOn_54 (by decide) (fun q => ?_) (fun q => ?_)
    · replace hw := hw.1 q
      refine z_le (lv2 := [some (.ref (E.2.2.1 39)), none, none, none, none]) (⟨rfl, trivial⟩) ?_
      exact w_M_goesOn_61 hG C hr  _ hw
    · replace hw := hw.2 q
      refine z_aload_n C (i := 0) d_M_goesOn_57 rfl rfl ?_
      refine z_callVv ⟨xN_ok, hG.1⟩ zT_good C (t_M_termEnds hG hw) ol_M_196 (by decide) rfl rfl (by decide) (by decide) pl_M_termEnds rfl rfl (Nat.le_of_ble_eq_true rfl) d_M_goesOn_58 (fun h8 hw => ?_)
      refine z_le (lv2 := [some (.ref (E.2.2.1 39)), none, none, none, none]) (⟨rfl, trivial⟩) ?_
      exact w_M_goesOn_61 hG C hr  _ hw
set_option maxRecDepth 100000 in
set_option maxHeartbeats 4000000 in
theorem w_M_goesOn_40 {l : Launch} {E : zE} {G : (Nat → Prop) → State → Prop} {p : Program} {e : Env} {s : State} {m : MethodId} {args : Array Value} {below : List Frame} {meth : Method} {c : Code} {A : Nat → Prop} {post : Int32 → zH → Prop} (hG : xGG E G) (C : zCx p s m args meth c E G A 6 153 prog_10_method_30_code 5 cn_M) (hr : meth.sig.returnType = (some .boolean))  (l1 : Int32) (s0 : Int32) (h : zH) (hw : b_M_goesOn_40 post l1 s0 h) : zGo p l e s m args below meth c E A 6 153 5 (zPi post) h 40 [some (.ref (E.2.2.1 39)), some (.int l1), none, none, none] [.int s0] := by
  unfold b_M_goesOn_40 at hw
  refine z_istore_n C (i := 2) d_M_goesOn_40 rfl (by decide) rfl ?_
  refine z_le (lv2 := [some (.ref (E.2.2.1 39)), some (.int l1), some (.int s0), none, none]) (⟨rfl, ⟨rfl, ⟨rfl, trivial⟩⟩⟩) ?_
  exact w_M_goesOn_41 hG C hr _ _ _ hw
set_option maxRecDepth 100000 in
set_option maxHeartbeats 4000000 in
theorem w_M_goesOn_118 {l : Launch} {E : zE} {G : (Nat → Prop) → State → Prop} {p : Program} {e : Env} {s : State} {m : MethodId} {args : Array Value} {below : List Frame} {meth : Method} {c : Code} {A : Nat → Prop} {post : Int32 → zH → Prop} (hG : xGG E G) (C : zCx p s m args meth c E G A 6 153 prog_10_method_30_code 5 cn_M) (hr : meth.sig.returnType = (some .boolean))  (h : zH) (hw : b_M_goesOn_118 post  h) : zGo p l e s m args below meth c E A 6 153 5 (zPi post) h 118 [none, none, none, none, none] [] := by
  unfold b_M_goesOn_118 at hw
  refine z_iconst C (v := 1) d_M_goesOn_118 (by decide) ?_
  exact z_zret C hr rfl d_M_goesOn_119 hw
set_option maxRecDepth 100000 in
set_option maxHeartbeats 4000000 in
theorem w_M_goesOn_222 {l : Launch} {E : zE} {G : (Nat → Prop) → State → Prop} {p : Program} {e : Env} {s : State} {m : MethodId} {args : Array Value} {below : List Frame} {meth : Method} {c : Code} {A : Nat → Prop} {post : Int32 → zH → Prop} (hG : xGG E G) (C : zCx p s m args meth c E G A 6 153 prog_10_method_30_code 5 cn_M) (hr : meth.sig.returnType = (some .boolean))  (h : zH) (hw : b_M_goesOn_222 post  h) : zGo p l e s m args below meth c E A 6 153 5 (zPi post) h 222 [none, none, none, none, none] [] := by
  unfold b_M_goesOn_222 at hw
  refine z_iconst C (v := 1) d_M_goesOn_222 (by decide) ?_
  exact z_zret C hr rfl d_M_goesOn_223 hw
set_option maxRecDepth 100000 in
set_option maxHeartbeats 4000000 in
theorem w_M_goesOn_218 {l : Launch} {E : zE} {G : (Nat → Prop) → State → Prop} {p : Program} {e : Env} {s : State} {m : MethodId} {args : Array Value} {below : List Frame} {meth : Method} {c : Code} {A : Nat → Prop} {post : Int32 → zH → Prop} (hG : xGG E G) (C : zCx p s m args meth c E G A 6 153 prog_10_method_30_code 5 cn_M) (hr : meth.sig.returnType = (some .boolean))  (h : zH) (hw : b_M_goesOn_218 post  h) : zGo p l e s m args below meth c E A 6 153 5 (zPi post) h 218 [some (.ref (E.2.2.1 39)), none, none, none, none] [] := by
  unfold b_M_goesOn_218 at hw
  refine z_aload_n C (i := 0) d_M_goesOn_218 rfl rfl ?_
  refine z_callVv ⟨xN_ok, hG.1⟩ zT_good C (t_M_termFault hG hw) ol_M_199 (by decide) rfl rfl (by decide) (by decide) pl_M_termFault rfl rfl (Nat.le_of_ble_eq_true rfl) d_M_goesOn_219 (fun h10 hw => ?_)
  refine z_le (lv2 := [none, none, none, none, none]) (trivial) ?_
  exact w_M_goesOn_222 hG C hr  _ hw
set_option maxRecDepth 100000 in
set_option maxHeartbeats 4000000 in
theorem w_M_goesOn_186 {l : Launch} {E : zE} {G : (Nat → Prop) → State → Prop} {p : Program} {e : Env} {s : State} {m : MethodId} {args : Array Value} {below : List Frame} {meth : Method} {c : Code} {A : Nat → Prop} {post : Int32 → zH → Prop} (hG : xGG E G) (C : zCx p s m args meth c E G A 6 153 prog_10_method_30_code 5 cn_M) (hr : meth.sig.returnType = (some .boolean))  (h : zH) (hw : b_M_goesOn_186 post  h) : zGo p l e s m args below meth c E A 6 153 5 (zPi post) h 186 [some (.ref (E.2.2.1 39)), none, none, none, none] [] := by
  unfold b_M_goesOn_186 at hw
  refine z_aload_n C (i := 0) d_M_goesOn_186 rfl rfl ?_
  refine z_callVi ⟨xN_ok, hG.1⟩ zT_good C (t_M_topOp hG hw) ol_M_175 (by decide) rfl rfl (by decide) (by decide) pl_M_topOp rfl rfl (Nat.le_of_ble_eq_true rfl) d_M_goesOn_187 (fun r11 h12 hw => ?_)
  refine z_bipush C (v := 63) d_M_goesOn_190 (by decide) ?_
  refine z_icmp_ne C (tgt := 218) d_M_goesOn_192 (by decide) (fun q => ?_) (fun q => ?_)
  · replace hw := hw.1 q
    refine z_le (lv2 := [some (.ref (E.2.2.1 39)), none, none, none, none]) (⟨rfl, trivial⟩) ?_
    exact w_M_goesOn_218 hG C hr  _ hw
  · replace hw := hw.2 q
    refine z_aload_n C (i := 0) d_M_goesOn_195 rfl rfl ?_
    refine z_getI C (ci := 8) (j := 24) (F := cf_M) (by decide) rfl rfl in_M (by decide) fl_M_118 rfl d_M_goesOn_196 ?_
    refine z_if_ne C (tgt := 218) d_M_goesOn_199 (by decide) (fun q => ?_) (fun q => ?_)
    · replace hw := hw.1 q
      refine z_le (lv2 := [some (.ref (E.2.2.1 39)), none, none, none, none]) (⟨rfl, trivial⟩) ?_
      exact w_M_goesOn_218 hG C hr  _ hw
    · replace hw := hw.2 q
      refine z_aload_n C (i := 0) d_M_goesOn_202 rfl rfl ?_
      refine z_getS C (ci := 8) (j := 25) (F := cf_M) (by decide) rfl rfl in_M (by decide) fl_M_53 rfl d_M_goesOn_203 ?_
      refine z_aload_n C (i := 0) d_M_goesOn_206 rfl rfl ?_
      refine z_getI C (ci := 8) (j := 28) (F := cf_M) (by decide) rfl rfl in_M (by decide) fl_M_128 rfl d_M_goesOn_207 ?_
      refine z_iconst C (v := 1) d_M_goesOn_210 (by decide) ?_
      refine z_isub C d_M_goesOn_211 ?_
      refine z_bipush C (v := 101) d_M_goesOn_212 (by decide) ?_
      refine z_iast C (by decide) rfl hw.1 d_M_goesOn_214 (fun h13 eh13 => ?_)
      replace hw := hw.2 h13 eh13
      refine z_goto C (tgt := 222) d_M_goesOn_215 (by decide) ?_
      refine z_le (lv2 := [none, none, none, none, none]) (trivial) ?_
      exact w_M_goesOn_222 hG C hr  _ hw
set_option maxRecDepth 100000 in
set_option maxHeartbeats 4000000 in
theorem w_M_goesOn_134 {l : Launch} {E : zE} {G : (Nat → Prop) → State → Prop} {p : Program} {e : Env} {s : State} {m : MethodId} {args : Array Value} {below : List Frame} {meth : Method} {c : Code} {A : Nat → Prop} {post : Int32 → zH → Prop} (hG : xGG E G) (C : zCx p s m args meth c E G A 6 153 prog_10_method_30_code 5 cn_M) (hr : meth.sig.returnType = (some .boolean)) : ∀ (n : Nat) (h : zH), b_M_goesOn_134 post n  h → zGo p l e s m args below meth c E A 6 153 5 (zPi post) h 134 [some (.ref (E.2.2.1 39)), none, none, none, none] [] := by
  intro n
  induction n with
  | zero => intro  h hw; exact False.elim hw
  | succ n hrc =>
    intro  h hw
    unfold b_M_goesOn_134 at hw
    refine z_aload_n C (i := 0) d_M_goesOn_134 rfl rfl ?_
    refine z_getI C (ci := 8) (j := 24) (F := cf_M) (by decide) rfl rfl in_M (by decide) fl_M_118 rfl d_M_goesOn_135 ?_
    refine z_if_ne C (tgt := 186) d_M_goesOn_138 (by decide) (fun q => ?_) (fun q => ?_)
    · replace hw := hw.1 q
      refine z_le (lv2 := [some (.ref (E.2.2.1 39)), none, none, none, none]) (⟨rfl, trivial⟩) ?_
      exact w_M_goesOn_186 hG C hr  _ hw
    · replace hw := hw.2 q
      refine z_aload_n C (i := 0) d_M_goesOn_141 rfl rfl ?_
      refine z_callVi ⟨xN_ok, hG.1⟩ zT_good C (t_M_topOp hG hw) ol_M_175 (by decide) rfl rfl (by decide) (by decide) pl_M_topOp rfl rfl (Nat.le_of_ble_eq_true rfl) d_M_goesOn_142 (fun r14 h15 hw => ?_)
      refine z_bipush C (v := 101) d_M_goesOn_145 (by decide) ?_
      refine z_icmp_ne C (tgt := 186) d_M_goesOn_147 (by decide) (fun q => ?_) (fun q => ?_)
      · replace hw := hw.1 q
        refine z_le (lv2 := [some (.ref (E.2.2.1 39)), none, none, none, none]) (⟨rfl, trivial⟩) ?_
        exact w_M_goesOn_186 hG C hr  _ hw
      · replace hw := hw.2 q
        refine z_aload_n C (i := 0) d_M_goesOn_150 rfl rfl ?_
        refine z_dup C d_M_goesOn_151 rfl ?_
        refine z_getI C (ci := 8) (j := 28) (F := cf_M) (by decide) rfl rfl in_M (by decide) fl_M_128 rfl d_M_goesOn_152 ?_
        refine z_iconst C (v := 1) d_M_goesOn_155 (by decide) ?_
        refine z_isub C d_M_goesOn_156 ?_
        refine z_putI C (ci := 8) (j := 28) (F := cf_M) ct_M (by decide) rfl rfl in_M ty_M nm_M (by decide) fl_M_128 rfl (by decide +kernel) rfl d_M_goesOn_157 (fun h16 eh16 => ?_)
        replace hw := hw h16 eh16
        refine z_aload_n C (i := 0) d_M_goesOn_160 rfl rfl ?_
        refine z_dup C d_M_goesOn_161 rfl ?_
        refine z_getI C (ci := 8) (j := 31) (F := cf_M) (by decide) rfl rfl in_M (by decide) fl_M_131 rfl d_M_goesOn_162 ?_
        refine z_iconst C (v := 1) d_M_goesOn_165 (by decide) ?_
        refine z_isub C d_M_goesOn_166 ?_
        refine z_putI C (ci := 8) (j := 31) (F := cf_M) ct_M (by decide) rfl rfl in_M ty_M nm_M (by decide) fl_M_131 rfl (by decide +kernel) rfl d_M_goesOn_167 (fun h17 eh17 => ?_)
        replace hw := hw h17 eh17
        refine z_aload_n C (i := 0) d_M_goesOn_170 rfl rfl ?_
        refine z_aload_n C (i := 0) d_M_goesOn_171 rfl rfl ?_
        refine z_getS C (ci := 8) (j := 26) (F := cf_M) (by decide) rfl rfl in_M (by decide) fl_M_56 rfl d_M_goesOn_172 ?_
        refine z_aload_n C (i := 0) d_M_goesOn_175 rfl rfl ?_
        refine z_getI C (ci := 8) (j := 28) (F := cf_M) (by decide) rfl rfl in_M (by decide) fl_M_128 rfl d_M_goesOn_176 ?_
        refine z_iald C (by decide) rfl hw.1 d_M_goesOn_179 ?_
        replace hw := hw.2
        refine z_callVv ⟨xN_ok, hG.1⟩ zT_good C (t_M_doChoice hG hw) ol_M_187 (by decide) rfl rfl (by decide) (by decide) pl_M_doChoice rfl rfl (Nat.le_of_ble_eq_true rfl) d_M_goesOn_180 (fun h19 hw => ?_)
        refine z_goto C (tgt := 134) d_M_goesOn_183 (by decide) ?_
        refine z_le (lv2 := [some (.ref (E.2.2.1 39)), none, none, none, none]) (⟨rfl, trivial⟩) ?_
        exact hrc  _ hw
set_option maxRecDepth 100000 in
set_option maxHeartbeats 4000000 in
theorem w_M_goesOn_340 {l : Launch} {E : zE} {G : (Nat → Prop) → State → Prop} {p : Program} {e : Env} {s : State} {m : MethodId} {args : Array Value} {below : List Frame} {meth : Method} {c : Code} {A : Nat → Prop} {post : Int32 → zH → Prop} (hG : xGG E G) (C : zCx p s m args meth c E G A 6 153 prog_10_method_30_code 5 cn_M) (hr : meth.sig.returnType = (some .boolean))  (h : zH) (hw : b_M_goesOn_340 post  h) : zGo p l e s m args below meth c E A 6 153 5 (zPi post) h 340 [some (.ref (E.2.2.1 39)), none, none, none, none] [] := by
  unfold b_M_goesOn_340 at hw
  refine z_aload_n C (i := 0) d_M_goesOn_340 rfl rfl ?_
  refine z_dup C d_M_goesOn_341 rfl ?_
  refine z_getI C (ci := 8) (j := 28) (F := cf_M) (by decide) rfl rfl in_M (by decide) fl_M_128 rfl d_M_goesOn_342 ?_
  refine z_iconst C (v := 1) d_M_goesOn_345 (by decide) ?_
  refine z_isub C d_M_goesOn_346 ?_
  refine z_putI C (ci := 8) (j := 28) (F := cf_M) ct_M (by decide) rfl rfl in_M ty_M nm_M (by decide) fl_M_128 rfl (by decide +kernel) rfl d_M_goesOn_347 (fun h20 eh20 => ?_)
  replace hw := hw h20 eh20
  refine z_aload_n C (i := 0) d_M_goesOn_350 rfl rfl ?_
  refine z_dup C d_M_goesOn_351 rfl ?_
  refine z_getI C (ci := 8) (j := 31) (F := cf_M) (by decide) rfl rfl in_M (by decide) fl_M_131 rfl d_M_goesOn_352 ?_
  refine z_iconst C (v := 1) d_M_goesOn_355 (by decide) ?_
  refine z_isub C d_M_goesOn_356 ?_
  refine z_putI C (ci := 8) (j := 31) (F := cf_M) ct_M (by decide) rfl rfl in_M ty_M nm_M (by decide) fl_M_131 rfl (by decide +kernel) rfl d_M_goesOn_357 (fun h21 eh21 => ?_)
  replace hw := hw h21 eh21
  refine z_aload_n C (i := 0) d_M_goesOn_360 rfl rfl ?_
  refine z_callVv ⟨xN_ok, hG.1⟩ zT_good C (t_M_wasRead hG hw) ol_M_202 (by decide) rfl rfl (by decide) (by decide) pl_M_wasRead rfl rfl (Nat.le_of_ble_eq_true rfl) d_M_goesOn_361 (fun h23 hw => ?_)
  refine z_iconst C (v := 0) d_M_goesOn_364 (by decide) ?_
  exact z_zret C hr rfl d_M_goesOn_365 hw
set_option maxRecDepth 100000 in
set_option maxHeartbeats 4000000 in
theorem w_M_goesOn_383 {l : Launch} {E : zE} {G : (Nat → Prop) → State → Prop} {p : Program} {e : Env} {s : State} {m : MethodId} {args : Array Value} {below : List Frame} {meth : Method} {c : Code} {A : Nat → Prop} {post : Int32 → zH → Prop} (hG : xGG E G) (C : zCx p s m args meth c E G A 6 153 prog_10_method_30_code 5 cn_M) (hr : meth.sig.returnType = (some .boolean))  (h : zH) (hw : b_M_goesOn_383 post  h) : zGo p l e s m args below meth c E A 6 153 5 (zPi post) h 383 [some (.ref (E.2.2.1 39)), none, none, none, none] [] := by
  unfold b_M_goesOn_383 at hw
  refine z_aload_n C (i := 0) d_M_goesOn_383 rfl rfl ?_
  refine z_iconst C (v := 1) d_M_goesOn_384 (by decide) ?_
  refine z_aload_n C (i := 0) d_M_goesOn_385 rfl rfl ?_
  refine z_getI C (ci := 8) (j := 9) (F := cf_M) (by decide) rfl rfl in_M (by decide) fl_M_93 rfl d_M_goesOn_386 ?_
  refine z_callVv ⟨xN_ok, hG.1⟩ zT_good C (t_M_bad hG hw) ol_M_124 (by decide) rfl rfl (by decide) (by decide) pl_M_bad rfl rfl (Nat.le_of_ble_eq_true rfl) d_M_goesOn_389 (fun h25 hw => ?_)
  refine z_iconst C (v := 1) d_M_goesOn_392 (by decide) ?_
  exact z_zret C hr rfl d_M_goesOn_393 hw
set_option maxRecDepth 100000 in
set_option maxHeartbeats 4000000 in
theorem w_M_goesOn_366 {l : Launch} {E : zE} {G : (Nat → Prop) → State → Prop} {p : Program} {e : Env} {s : State} {m : MethodId} {args : Array Value} {below : List Frame} {meth : Method} {c : Code} {A : Nat → Prop} {post : Int32 → zH → Prop} (hG : xGG E G) (C : zCx p s m args meth c E G A 6 153 prog_10_method_30_code 5 cn_M) (hr : meth.sig.returnType = (some .boolean))  (h : zH) (hw : b_M_goesOn_366 post  h) : zGo p l e s m args below meth c E A 6 153 5 (zPi post) h 366 [some (.ref (E.2.2.1 39)), none, none, none, none] [] := by
  unfold b_M_goesOn_366 at hw
  refine z_aload_n C (i := 0) d_M_goesOn_366 rfl rfl ?_
  refine z_getI C (ci := 8) (j := 8) (F := cf_M) (by decide) rfl rfl in_M (by decide) fl_M_103 rfl d_M_goesOn_367 ?_
  refine z_iconst C (v := 1) d_M_goesOn_370 (by decide) ?_
  refine z_icmp_ne C (tgt := 383) d_M_goesOn_371 (by decide) (fun q => ?_) (fun q => ?_)
  · replace hw := hw.1 q
    refine z_le (lv2 := [some (.ref (E.2.2.1 39)), none, none, none, none]) (⟨rfl, trivial⟩) ?_
    exact w_M_goesOn_383 hG C hr  _ hw
  · replace hw := hw.2 q
    refine z_aload_n C (i := 0) d_M_goesOn_374 rfl rfl ?_
    refine z_getI C (ci := 8) (j := 28) (F := cf_M) (by decide) rfl rfl in_M (by decide) fl_M_128 rfl d_M_goesOn_375 ?_
    refine z_if_ne C (tgt := 383) d_M_goesOn_378 (by decide) (fun q => ?_) (fun q => ?_)
    · replace hw := hw.1 q
      refine z_le (lv2 := [some (.ref (E.2.2.1 39)), none, none, none, none]) (⟨rfl, trivial⟩) ?_
      exact w_M_goesOn_383 hG C hr  _ hw
    · replace hw := hw.2 q
      refine z_iconst C (v := 0) d_M_goesOn_381 (by decide) ?_
      exact z_zret C hr rfl d_M_goesOn_382 hw
set_option maxRecDepth 100000 in
set_option maxHeartbeats 4000000 in
theorem w_M_goesOn_320 {l : Launch} {E : zE} {G : (Nat → Prop) → State → Prop} {p : Program} {e : Env} {s : State} {m : MethodId} {args : Array Value} {below : List Frame} {meth : Method} {c : Code} {A : Nat → Prop} {post : Int32 → zH → Prop} (hG : xGG E G) (C : zCx p s m args meth c E G A 6 153 prog_10_method_30_code 5 cn_M) (hr : meth.sig.returnType = (some .boolean))  (l2 : Int32) (l4 : Int32) (h : zH) (hw : b_M_goesOn_320 post l2 l4 h) : zGo p l e s m args below meth c E A 6 153 5 (zPi post) h 320 [some (.ref (E.2.2.1 39)), none, some (.int l2), none, some (.int l4)] [] := by
  unfold b_M_goesOn_320 at hw
  refine z_aload_n C (i := 0) d_M_goesOn_320 rfl rfl ?_
  refine z_getI C (ci := 8) (j := 8) (F := cf_M) (by decide) rfl rfl in_M (by decide) fl_M_103 rfl d_M_goesOn_321 ?_
  refine z_bipush C (v := 41) d_M_goesOn_324 (by decide) ?_
  refine z_icmp_ne C (tgt := 366) d_M_goesOn_326 (by decide) (fun q => ?_) (fun q => ?_)
  · replace hw := hw.1 q
    refine z_le (lv2 := [some (.ref (E.2.2.1 39)), none, none, none, none]) (⟨rfl, trivial⟩) ?_
    exact w_M_goesOn_366 hG C hr  _ hw
  · replace hw := hw.2 q
    refine z_iload_n C (i := 2) d_M_goesOn_329 rfl rfl ?_
    refine z_bipush C (v := 40) d_M_goesOn_330 (by decide) ?_
    refine z_icmp_eq C (tgt := 340) d_M_goesOn_332 (by decide) (fun q => ?_) (fun q => ?_)
    · replace hw := hw.1 q
      refine z_le (lv2 := [some (.ref (E.2.2.1 39)), none, none, none, none]) (⟨rfl, trivial⟩) ?_
      exact w_M_goesOn_340 hG C hr  _ hw
    · replace hw := hw.2 q
      refine z_iload C d_M_goesOn_335 rfl ?_
      refine z_if_eq C (tgt := 366) d_M_goesOn_337 (by decide) (fun q => ?_) (fun q => ?_)
      · replace hw := hw.1 q
        refine z_le (lv2 := [some (.ref (E.2.2.1 39)), none, none, none, none]) (⟨rfl, trivial⟩) ?_
        exact w_M_goesOn_366 hG C hr  _ hw
      · replace hw := hw.2 q
        refine z_le (lv2 := [some (.ref (E.2.2.1 39)), none, none, none, none]) (⟨rfl, trivial⟩) ?_
        exact w_M_goesOn_340 hG C hr  _ hw
set_option maxRecDepth 100000 in
set_option maxHeartbeats 4000000 in
theorem w_M_goesOn_298 {l : Launch} {E : zE} {G : (Nat → Prop) → State → Prop} {p : Program} {e : Env} {s : State} {m : MethodId} {args : Array Value} {below : List Frame} {meth : Method} {c : Code} {A : Nat → Prop} {post : Int32 → zH → Prop} (hG : xGG E G) (C : zCx p s m args meth c E G A 6 153 prog_10_method_30_code 5 cn_M) (hr : meth.sig.returnType = (some .boolean))  (l2 : Int32) (l3 : Int32) (s0 : Int32) (h : zH) (hw : b_M_goesOn_298 post l2 l3 s0 h) : zGo p l e s m args below meth c E A 6 153 5 (zPi post) h 298 [some (.ref (E.2.2.1 39)), none, some (.int l2), some (.int l3), none] [.int s0] := by
  unfold b_M_goesOn_298 at hw
  refine z_istore C d_M_goesOn_298 (by decide) rfl ?_
  refine z_aload_n C (i := 0) d_M_goesOn_300 rfl rfl ?_
  refine z_getI C (ci := 8) (j := 8) (F := cf_M) (by decide) rfl rfl in_M (by decide) fl_M_103 rfl d_M_goesOn_301 ?_
  refine z_bipush C (v := 44) d_M_goesOn_304 (by decide) ?_
  refine z_icmp_ne C (tgt := 320) d_M_goesOn_306 (by decide) (fun q => ?_) (fun q => ?_)
  · replace hw := hw.1 q
    refine z_le (lv2 := [some (.ref (E.2.2.1 39)), none, some (.int l2), none, some (.int s0)]) (⟨rfl, ⟨rfl, ⟨rfl, trivial⟩⟩⟩) ?_
    exact w_M_goesOn_320 hG C hr _ _ _ hw
  · replace hw := hw.2 q
    refine z_iload_n C (i := 3) d_M_goesOn_309 rfl rfl ?_
    refine z_if_eq C (tgt := 320) d_M_goesOn_310 (by decide) (fun q => ?_) (fun q => ?_)
    · replace hw := hw.1 q
      refine z_le (lv2 := [some (.ref (E.2.2.1 39)), none, some (.int l2), none, some (.int s0)]) (⟨rfl, ⟨rfl, ⟨rfl, trivial⟩⟩⟩) ?_
      exact w_M_goesOn_320 hG C hr _ _ _ hw
    · replace hw := hw.2 q
      refine z_iload C d_M_goesOn_313 rfl ?_
      refine z_if_ne C (tgt := 320) d_M_goesOn_315 (by decide) (fun q => ?_) (fun q => ?_)
      · replace hw := hw.1 q
        refine z_le (lv2 := [some (.ref (E.2.2.1 39)), none, some (.int l2), none, some (.int s0)]) (⟨rfl, ⟨rfl, ⟨rfl, trivial⟩⟩⟩) ?_
        exact w_M_goesOn_320 hG C hr _ _ _ hw
      · replace hw := hw.2 q
        refine z_iconst C (v := 1) d_M_goesOn_318 (by decide) ?_
        exact z_zret C hr rfl d_M_goesOn_319 hw
set_option maxRecDepth 100000 in
set_option maxHeartbeats 4000000 in
theorem w_M_goesOn_297 {l : Launch} {E : zE} {G : (Nat → Prop) → State → Prop} {p : Program} {e : Env} {s : State} {m : MethodId} {args : Array Value} {below : List Frame} {meth : Method} {c : Code} {A : Nat → Prop} {post : Int32 → zH → Prop} (hG : xGG E G) (C : zCx p s m args meth c E G A 6 153 prog_10_method_30_code 5 cn_M) (hr : meth.sig.returnType = (some .boolean))  (l2 : Int32) (l3 : Int32) (h : zH) (hw : b_M_goesOn_297 post l2 l3 h) : zGo p l e s m args below meth c E A 6 153 5 (zPi post) h 297 [some (.ref (E.2.2.1 39)), none, some (.int l2), some (.int l3), none] [] := by
  unfold b_M_goesOn_297 at hw
  refine z_iconst C (v := 0) d_M_goesOn_297 (by decide) ?_
  refine z_le (lv2 := [some (.ref (E.2.2.1 39)), none, some (.int l2), some (.int l3), none]) (⟨rfl, ⟨rfl, ⟨rfl, trivial⟩⟩⟩) ?_
  exact w_M_goesOn_298 hG C hr _ _ _ _ hw
set_option maxRecDepth 100000 in
set_option maxHeartbeats 4000000 in
theorem w_M_goesOn_290 {l : Launch} {E : zE} {G : (Nat → Prop) → State → Prop} {p : Program} {e : Env} {s : State} {m : MethodId} {args : Array Value} {below : List Frame} {meth : Method} {c : Code} {A : Nat → Prop} {post : Int32 → zH → Prop} (hG : xGG E G) (C : zCx p s m args meth c E G A 6 153 prog_10_method_30_code 5 cn_M) (hr : meth.sig.returnType = (some .boolean))  (l2 : Int32) (l3 : Int32) (s0 : Int32) (s1 : Int32) (h : zH) (hw : b_M_goesOn_290 post l2 l3 s0 s1 h) : zGo p l e s m args below meth c E A 6 153 5 (zPi post) h 290 [some (.ref (E.2.2.1 39)), none, some (.int l2), some (.int l3), none] [.int s0, .int s1] := by
  unfold b_M_goesOn_290 at hw
  refine z_icmp_ne C (tgt := 297) d_M_goesOn_290 (by decide) (fun q => ?_) (fun q => ?_)
  · replace hw := hw.1 q
    refine z_le (lv2 := [some (.ref (E.2.2.1 39)), none, some (.int l2), some (.int l3), none]) (⟨rfl, ⟨rfl, ⟨rfl, trivial⟩⟩⟩) ?_
    exact w_M_goesOn_297 hG C hr _ _ _ hw
  · replace hw := hw.2 q
    refine z_iconst C (v := 1) d_M_goesOn_293 (by decide) ?_
    refine z_goto C (tgt := 298) d_M_goesOn_294 (by decide) ?_
    refine z_le (lv2 := [some (.ref (E.2.2.1 39)), none, some (.int l2), some (.int l3), none]) (⟨rfl, ⟨rfl, ⟨rfl, trivial⟩⟩⟩) ?_
    exact w_M_goesOn_298 hG C hr _ _ _ _ hw
set_option maxRecDepth 100000 in
set_option maxHeartbeats 4000000 in
theorem w_M_goesOn_263 {l : Launch} {E : zE} {G : (Nat → Prop) → State → Prop} {p : Program} {e : Env} {s : State} {m : MethodId} {args : Array Value} {below : List Frame} {meth : Method} {c : Code} {A : Nat → Prop} {post : Int32 → zH → Prop} (hG : xGG E G) (C : zCx p s m args meth c E G A 6 153 prog_10_method_30_code 5 cn_M) (hr : meth.sig.returnType = (some .boolean))  (l2 : Int32) (s0 : Int32) (h : zH) (hw : b_M_goesOn_263 post l2 s0 h) : zGo p l e s m args below meth c E A 6 153 5 (zPi post) h 263 [some (.ref (E.2.2.1 39)), none, some (.int l2), none, none] [.int s0] := by
  unfold b_M_goesOn_263 at hw
  refine z_istore_n C (i := 3) d_M_goesOn_263 rfl (by decide) rfl ?_
  refine z_iload_n C (i := 3) d_M_goesOn_264 rfl rfl ?_
  refine z_if_eq C (tgt := 297) d_M_goesOn_265 (by decide) (fun q => ?_) (fun q => ?_)
  · replace hw := hw.1 q
    refine z_le (lv2 := [some (.ref (E.2.2.1 39)), none, some (.int l2), some (.int s0), none]) (⟨rfl, ⟨rfl, ⟨rfl, trivial⟩⟩⟩) ?_
    exact w_M_goesOn_297 hG C hr _ _ _ hw
  · replace hw := hw.2 q
    refine z_aload_n C (i := 0) d_M_goesOn_268 rfl rfl ?_
    refine z_getS C (ci := 8) (j := 27) (F := cf_M) (by decide) rfl rfl in_M (by decide) fl_M_59 rfl d_M_goesOn_269 ?_
    refine z_aload_n C (i := 0) d_M_goesOn_272 rfl rfl ?_
    refine z_getI C (ci := 8) (j := 28) (F := cf_M) (by decide) rfl rfl in_M (by decide) fl_M_128 rfl d_M_goesOn_273 ?_
    refine z_iconst C (v := 1) d_M_goesOn_276 (by decide) ?_
    refine z_isub C d_M_goesOn_277 ?_
    refine z_iald C (by decide) rfl hw.1 d_M_goesOn_278 ?_
    replace hw := hw.2
    refine z_iload_n C (i := 2) d_M_goesOn_279 rfl rfl ?_
    refine z_bipush C (v := 6) d_M_goesOn_280 (by decide) ?_
    refine z_icmp_ne C (tgt := 289) d_M_goesOn_282 (by decide) (fun q => ?_) (fun q => ?_)
    · replace hw := hw.1 q
      refine z_iconst C (v := 2) d_M_goesOn_289 (by decide) ?_
      refine z_le (lv2 := [some (.ref (E.2.2.1 39)), none, some (.int l2), some (.int s0), none]) (⟨rfl, ⟨rfl, ⟨rfl, trivial⟩⟩⟩) ?_
      exact w_M_goesOn_290 hG C hr _ _ _ _ _ hw
    · replace hw := hw.2 q
      refine z_iconst C (v := 1) d_M_goesOn_285 (by decide) ?_
      refine z_goto C (tgt := 290) d_M_goesOn_286 (by decide) ?_
      refine z_le (lv2 := [some (.ref (E.2.2.1 39)), none, some (.int l2), some (.int s0), none]) (⟨rfl, ⟨rfl, ⟨rfl, trivial⟩⟩⟩) ?_
      exact w_M_goesOn_290 hG C hr _ _ _ _ _ hw
set_option maxRecDepth 100000 in
set_option maxHeartbeats 4000000 in
theorem w_M_goesOn_258 {l : Launch} {E : zE} {G : (Nat → Prop) → State → Prop} {p : Program} {e : Env} {s : State} {m : MethodId} {args : Array Value} {below : List Frame} {meth : Method} {c : Code} {A : Nat → Prop} {post : Int32 → zH → Prop} (hG : xGG E G) (C : zCx p s m args meth c E G A 6 153 prog_10_method_30_code 5 cn_M) (hr : meth.sig.returnType = (some .boolean))  (l2 : Int32) (h : zH) (hw : b_M_goesOn_258 post l2 h) : zGo p l e s m args below meth c E A 6 153 5 (zPi post) h 258 [some (.ref (E.2.2.1 39)), none, some (.int l2), none, none] [] := by
  unfold b_M_goesOn_258 at hw
  refine z_iconst C (v := 1) d_M_goesOn_258 (by decide) ?_
  refine z_goto C (tgt := 263) d_M_goesOn_259 (by decide) ?_
  refine z_le (lv2 := [some (.ref (E.2.2.1 39)), none, some (.int l2), none, none]) (⟨rfl, ⟨rfl, trivial⟩⟩) ?_
  exact w_M_goesOn_263 hG C hr _ _ _ hw
set_option maxRecDepth 100000 in
set_option maxHeartbeats 4000000 in
theorem t_M_goesOn {l : Launch} {E : zE} {G : (Nat → Prop) → State → Prop} (hG : xGG E G) {h : zH} {post : Int32 → zH → Prop} (hw : wp_M_goesOn  h post) : Ct l xX E xcl xN zT G 6 153 y_M_goesOn prog_10_method_30_code 5 (some .boolean) [.ref (E.2.2.1 39)] h (zPi post) := by
  unfold wp_M_goesOn at hw
  refine Ct.of (by decide) (Nat.le_of_ble_eq_true rfl) ?_
  intro p e s m below meth c A C hr
  refine z_lv (lv2 := [some (.ref (E.2.2.1 39)), none, none, none, none]) rfl ?_
  refine z_aload_n C (i := 0) d_M_goesOn_0 rfl rfl ?_
  refine z_getI C (ci := 8) (j := 8) (F := cf_M) (by decide) rfl rfl in_M (by decide) fl_M_103 rfl d_M_goesOn_1 ?_
  refine z_callSi ⟨xN_ok, hG.1⟩ zT_good C (t_M_rank hG hw) ol_M_157 (by decide) (by decide) pl_M_rank rfl rfl (Nat.le_of_ble_eq_true rfl) d_M_goesOn_4 (fun r26 h27 hw => ?_)
  refine z_istore_n C (i := 1) d_M_goesOn_7 rfl (by decide) rfl ?_
  refine z_iload_n C (i := 1) d_M_goesOn_8 rfl rfl ?_
  refine z_if_le C (tgt := 91) d_M_goesOn_9 (by decide) (fun q => ?_) (fun q => ?_)
  · replace hw := hw.1 q
    refine z_aload_n C (i := 0) d_M_goesOn_91 rfl rfl ?_
    refine z_getI C (ci := 8) (j := 8) (F := cf_M) (by decide) rfl rfl in_M (by decide) fl_M_103 rfl d_M_goesOn_92 ?_
    refine z_bipush C (v := 63) d_M_goesOn_95 (by decide) ?_
    refine z_icmp_ne C (tgt := 120) d_M_goesOn_97 (by decide) (fun q => ?_) (fun q => ?_)
    · replace hw := hw.1 q
      refine z_aload_n C (i := 0) d_M_goesOn_120 rfl rfl ?_
      refine z_getI C (ci := 8) (j := 8) (F := cf_M) (by decide) rfl rfl in_M (by decide) fl_M_103 rfl d_M_goesOn_121 ?_
      refine z_bipush C (v := 58) d_M_goesOn_124 (by decide) ?_
      refine z_icmp_ne C (tgt := 224) d_M_goesOn_126 (by decide) (fun q => ?_) (fun q => ?_)
      · replace hw := hw.1 q
        refine z_aload_n C (i := 0) d_M_goesOn_224 rfl rfl ?_
        refine z_callVv ⟨xN_ok, hG.1⟩ zT_good C (t_M_termEnds hG hw) ol_M_196 (by decide) rfl rfl (by decide) (by decide) pl_M_termEnds rfl rfl (Nat.le_of_ble_eq_true rfl) d_M_goesOn_225 (fun h29 hw => ?_)
        refine z_aload_n C (i := 0) d_M_goesOn_228 rfl rfl ?_
        refine z_getI C (ci := 8) (j := 24) (F := cf_M) (by decide) rfl rfl in_M (by decide) fl_M_118 rfl d_M_goesOn_229 ?_
        refine z_if_le C (tgt := 237) d_M_goesOn_232 (by decide) (fun q => ?_) (fun q => ?_)
        · replace hw := hw.1 q
          refine z_aload_n C (i := 0) d_M_goesOn_237 rfl rfl ?_
          refine z_callVi ⟨xN_ok, hG.1⟩ zT_good C (t_M_topOp hG hw) ol_M_175 (by decide) rfl rfl (by decide) (by decide) pl_M_topOp rfl rfl (Nat.le_of_ble_eq_true rfl) d_M_goesOn_238 (fun r30 h31 hw => ?_)
          refine z_istore_n C (i := 2) d_M_goesOn_241 rfl (by decide) rfl ?_
          refine z_iload_n C (i := 2) d_M_goesOn_242 rfl rfl ?_
          refine z_iconst C (v := 4) d_M_goesOn_243 (by decide) ?_
          refine z_icmp_eq C (tgt := 258) d_M_goesOn_244 (by decide) (fun q => ?_) (fun q => ?_)
          · replace hw := hw.1 q
            refine z_le (lv2 := [some (.ref (E.2.2.1 39)), none, some (.int r30), none, none]) (⟨rfl, ⟨rfl, trivial⟩⟩) ?_
            exact w_M_goesOn_258 hG C hr _ _ hw
          · replace hw := hw.2 q
            refine z_iload_n C (i := 2) d_M_goesOn_247 rfl rfl ?_
            refine z_iconst C (v := 5) d_M_goesOn_248 (by decide) ?_
            refine z_icmp_eq C (tgt := 258) d_M_goesOn_249 (by decide) (fun q => ?_) (fun q => ?_)
            · replace hw := hw.1 q
              refine z_le (lv2 := [some (.ref (E.2.2.1 39)), none, some (.int r30), none, none]) (⟨rfl, ⟨rfl, trivial⟩⟩) ?_
              exact w_M_goesOn_258 hG C hr _ _ hw
            · replace hw := hw.2 q
              refine z_iload_n C (i := 2) d_M_goesOn_252 rfl rfl ?_
              refine z_bipush C (v := 6) d_M_goesOn_253 (by decide) ?_
              refine z_icmp_ne C (tgt := 262) d_M_goesOn_255 (by decide) (fun q => ?_) (fun q => ?_)
              · replace hw := hw.1 q
                refine z_iconst C (v := 0) d_M_goesOn_262 (by decide) ?_
                refine z_le (lv2 := [some (.ref (E.2.2.1 39)), none, some (.int r30), none, none]) (⟨rfl, ⟨rfl, trivial⟩⟩) ?_
                exact w_M_goesOn_263 hG C hr _ _ _ hw
              · replace hw := hw.2 q
                refine z_le (lv2 := [some (.ref (E.2.2.1 39)), none, some (.int r30), none, none]) (⟨rfl, ⟨rfl, trivial⟩⟩) ?_
                exact w_M_goesOn_258 hG C hr _ _ hw
        · replace hw := hw.2 q
          refine z_iconst C (v := 1) d_M_goesOn_235 (by decide) ?_
          exact z_zret C hr rfl d_M_goesOn_236 hw
      · replace hw := hw.2 q
        refine z_aload_n C (i := 0) d_M_goesOn_129 rfl rfl ?_
        refine z_iconst C (v := 1) d_M_goesOn_130 (by decide) ?_
        refine z_callVv ⟨xN_ok, hG.1⟩ zT_good C (t_M_doAll hG hw) ol_M_184 (by decide) rfl rfl (by decide) (by decide) pl_M_doAll rfl rfl (Nat.le_of_ble_eq_true rfl) d_M_goesOn_131 (fun h33 hw => ?_)
        refine z_le (lv2 := [some (.ref (E.2.2.1 39)), none, none, none, none]) (⟨rfl, trivial⟩) ?_
        obtain ⟨n, hw⟩ := hw
        exact w_M_goesOn_134 hG C hr n  _ hw
    · replace hw := hw.2 q
      refine z_aload_n C (i := 0) d_M_goesOn_100 rfl rfl ?_
      refine z_iconst C (v := 1) d_M_goesOn_101 (by decide) ?_
      refine z_callVv ⟨xN_ok, hG.1⟩ zT_good C (t_M_doAll hG hw) ol_M_184 (by decide) rfl rfl (by decide) (by decide) pl_M_doAll rfl rfl (Nat.le_of_ble_eq_true rfl) d_M_goesOn_102 (fun h35 hw => ?_)
      refine z_aload_n C (i := 0) d_M_goesOn_105 rfl rfl ?_
      refine z_getI C (ci := 8) (j := 24) (F := cf_M) (by decide) rfl rfl in_M (by decide) fl_M_118 rfl d_M_goesOn_106 ?_
      refine z_if_ne C (tgt := 118) d_M_goesOn_109 (by decide) (fun q => ?_) (fun q => ?_)
      · replace hw := hw.1 q
        refine z_le (lv2 := [none, none, none, none, none]) (trivial) ?_
        exact w_M_goesOn_118 hG C hr  _ hw
      · replace hw := hw.2 q
        refine z_aload_n C (i := 0) d_M_goesOn_112 rfl rfl ?_
        refine z_bipush C (v := 63) d_M_goesOn_113 (by decide) ?_
        refine z_callVv ⟨xN_ok, hG.1⟩ zT_good C (t_M_enter hG hw) ol_M_190 (by decide) rfl rfl (by decide) (by decide) pl_M_enter rfl rfl (Nat.le_of_ble_eq_true rfl) d_M_goesOn_115 (fun h37 hw => ?_)
        refine z_le (lv2 := [none, none, none, none, none]) (trivial) ?_
        exact w_M_goesOn_118 hG C hr  _ hw
  · replace hw := hw.2 q
    refine z_iconst C (v := 0) d_M_goesOn_12 (by decide) ?_
    refine z_istore_n C (i := 2) d_M_goesOn_13 rfl (by decide) rfl ?_
    refine z_iload_n C (i := 1) d_M_goesOn_14 rfl rfl ?_
    refine z_iconst C (v := 4) d_M_goesOn_15 (by decide) ?_
    refine z_icmp_ne C (tgt := 41) d_M_goesOn_16 (by decide) (fun q => ?_) (fun q => ?_)
    · replace hw := hw.1 q
      refine z_le (lv2 := [some (.ref (E.2.2.1 39)), some (.int r26), some (.int 0), none, none]) (⟨rfl, ⟨rfl, ⟨rfl, trivial⟩⟩⟩) ?_
      exact w_M_goesOn_41 hG C hr _ _ _ hw
    · replace hw := hw.2 q
      refine z_aload_n C (i := 0) d_M_goesOn_19 rfl rfl ?_
      refine z_iconst C (v := 5) d_M_goesOn_20 (by decide) ?_
      refine z_callVv ⟨xN_ok, hG.1⟩ zT_good C (t_M_doAll hG hw) ol_M_184 (by decide) rfl rfl (by decide) (by decide) pl_M_doAll rfl rfl (Nat.le_of_ble_eq_true rfl) d_M_goesOn_21 (fun h39 hw => ?_)
      refine z_aload_n C (i := 0) d_M_goesOn_24 rfl rfl ?_
      refine z_callVi ⟨xN_ok, hG.1⟩ zT_good C (t_M_topOp hG hw) ol_M_175 (by decide) rfl rfl (by decide) (by decide) pl_M_topOp rfl rfl (Nat.le_of_ble_eq_true rfl) d_M_goesOn_25 (fun r40 h41 hw => ?_)
      refine z_callSi ⟨xN_ok, hG.1⟩ zT_good C (t_M_rank hG hw) ol_M_157 (by decide) (by decide) pl_M_rank rfl rfl (Nat.le_of_ble_eq_true rfl) d_M_goesOn_28 (fun r42 h43 hw => ?_)
      refine z_iconst C (v := 4) d_M_goesOn_31 (by decide) ?_
      refine z_icmp_ne C (tgt := 39) d_M_goesOn_32 (by decide) (fun q => ?_) (fun q => ?_)
      · replace hw := hw.1 q
        refine z_iconst C (v := 0) d_M_goesOn_39 (by decide) ?_
        refine z_le (lv2 := [some (.ref (E.2.2.1 39)), some (.int r26), none, none, none]) (⟨rfl, ⟨rfl, trivial⟩⟩) ?_
        exact w_M_goesOn_40 hG C hr _ _ _ hw
      · replace hw := hw.2 q
        refine z_iconst C (v := 1) d_M_goesOn_35 (by decide) ?_
        refine z_goto C (tgt := 40) d_M_goesOn_36 (by decide) ?_
        refine z_le (lv2 := [some (.ref (E.2.2.1 39)), some (.int r26), none, none, none]) (⟨rfl, ⟨rfl, trivial⟩⟩) ?_
        exact w_M_goesOn_40 hG C hr _ _ _ hw
theorem d_M_part_0 : decode prog_10_method_33_code 0 = .ok (.aload_n 0, 1) := by decide +kernel
theorem d_M_part_1 : decode prog_10_method_33_code 1 = .ok (.iconst 0, 1) := by decide +kernel
theorem d_M_part_2 : decode prog_10_method_33_code 2 = .ok (.putfield 68, 3) := by decide +kernel
theorem d_M_part_5 : decode prog_10_method_33_code 5 = .ok (.iload_n 1, 1) := by decide +kernel
theorem d_M_part_6 : decode prog_10_method_33_code 6 = .ok (.ifCond .lt (11), 3) := by decide +kernel
theorem d_M_part_9 : decode prog_10_method_33_code 9 = .ok (.iload_n 1, 1) := by decide +kernel
theorem d_M_part_10 : decode prog_10_method_33_code 10 = .ok (.aload_n 0, 1) := by decide +kernel
theorem d_M_part_11 : decode prog_10_method_33_code 11 = .ok (.getfield 212, 3) := by decide +kernel
theorem d_M_part_14 : decode prog_10_method_33_code 14 = .ok (.if_icmp .lt (5), 3) := by decide +kernel
theorem d_M_part_17 : decode prog_10_method_33_code 17 = .ok (.iconst (-1), 1) := by decide +kernel
theorem d_M_part_18 : decode prog_10_method_33_code 18 = .ok (.ireturn, 1) := by decide +kernel
theorem d_M_part_19 : decode prog_10_method_33_code 19 = .ok (.iload_n 2, 1) := by decide +kernel
theorem d_M_part_20 : decode prog_10_method_33_code 20 = .ok (.tableswitch (74) (0) (3) #[32, 42, 52, 63], 32) := by decide +kernel
theorem d_M_part_52 : decode prog_10_method_33_code 52 = .ok (.aload_n 0, 1) := by decide +kernel
theorem d_M_part_53 : decode prog_10_method_33_code 53 = .ok (.getfield 25, 3) := by decide +kernel
theorem d_M_part_56 : decode prog_10_method_33_code 56 = .ok (.bipush (100), 2) := by decide +kernel
theorem d_M_part_58 : decode prog_10_method_33_code 58 = .ok (.iload_n 1, 1) := by decide +kernel
theorem d_M_part_59 : decode prog_10_method_33_code 59 = .ok (.iadd, 1) := by decide +kernel
theorem d_M_part_60 : decode prog_10_method_33_code 60 = .ok (.iaload, 1) := by decide +kernel
theorem d_M_part_61 : decode prog_10_method_33_code 61 = .ok (.ireturn, 1) := by decide +kernel
theorem d_M_part_62 : decode prog_10_method_33_code 62 = .ok (.aload_n 0, 1) := by decide +kernel
theorem d_M_part_63 : decode prog_10_method_33_code 63 = .ok (.getfield 28, 3) := by decide +kernel
theorem d_M_part_66 : decode prog_10_method_33_code 66 = .ok (.bipush (100), 2) := by decide +kernel
theorem d_M_part_68 : decode prog_10_method_33_code 68 = .ok (.iload_n 1, 1) := by decide +kernel
theorem d_M_part_69 : decode prog_10_method_33_code 69 = .ok (.iadd, 1) := by decide +kernel
theorem d_M_part_70 : decode prog_10_method_33_code 70 = .ok (.iaload, 1) := by decide +kernel
theorem d_M_part_71 : decode prog_10_method_33_code 71 = .ok (.ireturn, 1) := by decide +kernel
theorem d_M_part_72 : decode prog_10_method_33_code 72 = .ok (.aload_n 0, 1) := by decide +kernel
theorem d_M_part_73 : decode prog_10_method_33_code 73 = .ok (.getfield 31, 3) := by decide +kernel
theorem d_M_part_76 : decode prog_10_method_33_code 76 = .ok (.bipush (100), 2) := by decide +kernel
theorem d_M_part_78 : decode prog_10_method_33_code 78 = .ok (.iload_n 1, 1) := by decide +kernel
theorem d_M_part_79 : decode prog_10_method_33_code 79 = .ok (.iadd, 1) := by decide +kernel
theorem d_M_part_80 : decode prog_10_method_33_code 80 = .ok (.laload, 1) := by decide +kernel
theorem d_M_part_81 : decode prog_10_method_33_code 81 = .ok (.l2i, 1) := by decide +kernel
theorem d_M_part_82 : decode prog_10_method_33_code 82 = .ok (.ireturn, 1) := by decide +kernel
theorem d_M_part_83 : decode prog_10_method_33_code 83 = .ok (.aload_n 0, 1) := by decide +kernel
theorem d_M_part_84 : decode prog_10_method_33_code 84 = .ok (.getfield 35, 3) := by decide +kernel
theorem d_M_part_87 : decode prog_10_method_33_code 87 = .ok (.bipush (100), 2) := by decide +kernel
theorem d_M_part_89 : decode prog_10_method_33_code 89 = .ok (.iload_n 1, 1) := by decide +kernel
theorem d_M_part_90 : decode prog_10_method_33_code 90 = .ok (.iadd, 1) := by decide +kernel
theorem d_M_part_91 : decode prog_10_method_33_code 91 = .ok (.laload, 1) := by decide +kernel
theorem d_M_part_92 : decode prog_10_method_33_code 92 = .ok (.l2i, 1) := by decide +kernel
theorem d_M_part_93 : decode prog_10_method_33_code 93 = .ok (.ireturn, 1) := by decide +kernel
theorem d_M_part_94 : decode prog_10_method_33_code 94 = .ok (.iconst (-1), 1) := by decide +kernel
theorem d_M_part_95 : decode prog_10_method_33_code 95 = .ok (.ireturn, 1) := by decide +kernel
def b_M_part_17 (post : Int32 → zH → Prop) (h : zH) : Prop := post (-1) h
def wp_M_part (l1 : Int32) (l2 : Int32) (h : zH) (post : Int32 → zH → Prop) : Prop := (∀ h1 : zH, h1 = zi h 39 0 0 → ((l1 < 0 → b_M_part_17 post  h1) ∧ (¬ l1 < 0 → ((l1 < (h1.1 39 23) → ((l2 = 0 → (vp_in (100 + l1) 200 ∧ post (h1.1 45 ((100 + l1) : Int32).toNatClampNeg) h1)) ∧ (¬ l2 = 0 → ((l2 = 1 → (vp_in (100 + l1) 200 ∧ post (h1.1 46 ((100 + l1) : Int32).toNatClampNeg) h1)) ∧ (¬ l2 = 1 → ((l2 = 2 → (vp_in (100 + l1) 200 ∧ post ((h1.2.1 47 ((100 + l1) : Int32).toNatClampNeg) : Int64).toInt32 h1)) ∧ (¬ l2 = 2 → ((l2 = 3 → (vp_in (100 + l1) 200 ∧ post ((h1.2.1 48 ((100 + l1) : Int32).toNatClampNeg) : Int64).toInt32 h1)) ∧ (¬ l2 = 3 → post (-1) h1))))))))) ∧ (¬ l1 < (h1.1 39 23) → b_M_part_17 post  h1)))))
set_option maxRecDepth 100000 in
set_option maxHeartbeats 4000000 in
theorem w_M_part_17 {l : Launch} {E : zE} {G : (Nat → Prop) → State → Prop} {p : Program} {e : Env} {s : State} {m : MethodId} {args : Array Value} {below : List Frame} {meth : Method} {c : Code} {A : Nat → Prop} {post : Int32 → zH → Prop} (hG : xGG E G) (C : zCx p s m args meth c E G A 0 0 prog_10_method_33_code 3 cn_M) (hr : meth.sig.returnType = (some .int))  (h : zH) (hw : b_M_part_17 post  h) : zGo p l e s m args below meth c E A 0 0 3 (zPi post) h 17 [none, none, none] [] := by
  unfold b_M_part_17 at hw
  refine z_iconst C (v := (-1)) d_M_part_17 (by decide) ?_
  exact z_iret C hr d_M_part_18 hw
set_option maxRecDepth 100000 in
set_option maxHeartbeats 4000000 in
theorem t_M_part {l : Launch} {E : zE} {G : (Nat → Prop) → State → Prop} (hG : xGG E G) {l1 : Int32} {l2 : Int32} {h : zH} {post : Int32 → zH → Prop} (hw : wp_M_part l1 l2 h post) : Ct l xX E xcl xN zT G 0 0 y_M_part prog_10_method_33_code 3 (some .int) [.ref (E.2.2.1 39), .int l1, .int l2] h (zPi post) := by
  unfold wp_M_part at hw
  refine Ct.of (by decide) (Nat.le_of_ble_eq_true rfl) ?_
  intro p e s m below meth c A C hr
  refine z_lv (lv2 := [some (.ref (E.2.2.1 39)), some (.int l1), some (.int l2)]) rfl ?_
  refine z_aload_n C (i := 0) d_M_part_0 rfl rfl ?_
  refine z_iconst C (v := 0) d_M_part_1 (by decide) ?_
  refine z_putI C (ci := 8) (j := 0) (F := cf_M) ct_M (by decide) rfl rfl in_M ty_M nm_M (by decide) fl_M_68 rfl (by decide +kernel) rfl d_M_part_2 (fun h1 eh1 => ?_)
  replace hw := hw h1 eh1
  refine z_iload_n C (i := 1) d_M_part_5 rfl rfl ?_
  refine z_if_lt C (tgt := 17) d_M_part_6 (by decide) (fun q => ?_) (fun q => ?_)
  · replace hw := hw.1 q
    refine z_le (lv2 := [none, none, none]) (trivial) ?_
    exact w_M_part_17 hG C hr  _ hw
  · replace hw := hw.2 q
    refine z_iload_n C (i := 1) d_M_part_9 rfl rfl ?_
    refine z_aload_n C (i := 0) d_M_part_10 rfl rfl ?_
    refine z_getI C (ci := 8) (j := 23) (F := cf_M) (by decide) rfl rfl in_M (by decide) fl_M_212 rfl d_M_part_11 ?_
    refine z_icmp_lt C (tgt := 19) d_M_part_14 (by decide) (fun q => ?_) (fun q => ?_)
    · replace hw := hw.1 q
      refine z_iload_n C (i := 2) d_M_part_19 rfl rfl ?_
      refine z_tcase C (off := 32) (tgt := 52) (0 : Int32) d_M_part_20 (by decide) (by decide) rfl (by decide) (fun q0 => ?_) (fun q0 => ?_)
      · replace hw := hw.1 q0
        refine z_aload_n C (i := 0) d_M_part_52 rfl rfl ?_
        refine z_getS C (ci := 8) (j := 13) (F := cf_M) (by decide) rfl rfl in_M (by decide) fl_M_25 rfl d_M_part_53 ?_
        refine z_bipush C (v := 100) d_M_part_56 (by decide) ?_
        refine z_iload_n C (i := 1) d_M_part_58 rfl rfl ?_
        refine z_iadd C d_M_part_59 ?_
        refine z_iald C (by decide) rfl hw.1 d_M_part_60 ?_
        replace hw := hw.2
        exact z_iret C hr d_M_part_61 hw
      replace hw := hw.2 q0
      refine z_tcase C (off := 42) (tgt := 62) (1 : Int32) d_M_part_20 (by decide) (by decide) rfl (by decide) (fun q1 => ?_) (fun q1 => ?_)
      · replace hw := hw.1 q1
        refine z_aload_n C (i := 0) d_M_part_62 rfl rfl ?_
        refine z_getS C (ci := 8) (j := 14) (F := cf_M) (by decide) rfl rfl in_M (by decide) fl_M_28 rfl d_M_part_63 ?_
        refine z_bipush C (v := 100) d_M_part_66 (by decide) ?_
        refine z_iload_n C (i := 1) d_M_part_68 rfl rfl ?_
        refine z_iadd C d_M_part_69 ?_
        refine z_iald C (by decide) rfl hw.1 d_M_part_70 ?_
        replace hw := hw.2
        exact z_iret C hr d_M_part_71 hw
      replace hw := hw.2 q1
      refine z_tcase C (off := 52) (tgt := 72) (2 : Int32) d_M_part_20 (by decide) (by decide) rfl (by decide) (fun q2 => ?_) (fun q2 => ?_)
      · replace hw := hw.1 q2
        refine z_aload_n C (i := 0) d_M_part_72 rfl rfl ?_
        refine z_getS C (ci := 8) (j := 15) (F := cf_M) (by decide) rfl rfl in_M (by decide) fl_M_31 rfl d_M_part_73 ?_
        refine z_bipush C (v := 100) d_M_part_76 (by decide) ?_
        refine z_iload_n C (i := 1) d_M_part_78 rfl rfl ?_
        refine z_iadd C d_M_part_79 ?_
        refine z_lald C (by decide) rfl hw.1 d_M_part_80 ?_
        replace hw := hw.2
        refine z_l2i C d_M_part_81 ?_
        exact z_iret C hr d_M_part_82 hw
      replace hw := hw.2 q2
      refine z_tcase C (off := 63) (tgt := 83) (3 : Int32) d_M_part_20 (by decide) (by decide) rfl (by decide) (fun q3 => ?_) (fun q3 => ?_)
      · replace hw := hw.1 q3
        refine z_aload_n C (i := 0) d_M_part_83 rfl rfl ?_
        refine z_getS C (ci := 8) (j := 16) (F := cf_M) (by decide) rfl rfl in_M (by decide) fl_M_35 rfl d_M_part_84 ?_
        refine z_bipush C (v := 100) d_M_part_87 (by decide) ?_
        refine z_iload_n C (i := 1) d_M_part_89 rfl rfl ?_
        refine z_iadd C d_M_part_90 ?_
        refine z_lald C (by decide) rfl hw.1 d_M_part_91 ?_
        replace hw := hw.2
        refine z_l2i C d_M_part_92 ?_
        exact z_iret C hr d_M_part_93 hw
      replace hw := hw.2 q3
      refine z_tabOut C (tgt := 94) d_M_part_20 (by have e0 := lv_neT q0 (a := 0) rfl; have e1 := lv_neT q1 (a := 1) rfl; have e2 := lv_neT q2 (a := 2) rfl; have e3 := lv_neT q3 (a := 3) rfl; omega) (by decide) ?_
      refine z_iconst C (v := (-1)) d_M_part_94 (by decide) ?_
      exact z_iret C hr d_M_part_95 hw
    · replace hw := hw.2 q
      refine z_le (lv2 := [none, none, none]) (trivial) ?_
      exact w_M_part_17 hG C hr  _ hw
theorem d_M_take_0 : decode prog_10_method_32_code 0 = .ok (.aload_n 0, 1) := by decide +kernel
theorem d_M_take_1 : decode prog_10_method_32_code 1 = .ok (.iconst 0, 1) := by decide +kernel
theorem d_M_take_2 : decode prog_10_method_32_code 2 = .ok (.putfield 68, 3) := by decide +kernel
theorem d_M_take_5 : decode prog_10_method_32_code 5 = .ok (.aload_n 0, 1) := by decide +kernel
theorem d_M_take_6 : decode prog_10_method_32_code 6 = .ok (.aload_n 0, 1) := by decide +kernel
theorem d_M_take_7 : decode prog_10_method_32_code 7 = .ok (.getfield 83, 3) := by decide +kernel
theorem d_M_take_10 : decode prog_10_method_32_code 10 = .ok (.putfield 86, 3) := by decide +kernel
theorem d_M_take_13 : decode prog_10_method_32_code 13 = .ok (.aload_n 0, 1) := by decide +kernel
theorem d_M_take_14 : decode prog_10_method_32_code 14 = .ok (.iconst 0, 1) := by decide +kernel
theorem d_M_take_15 : decode prog_10_method_32_code 15 = .ok (.putfield 83, 3) := by decide +kernel
theorem d_M_take_18 : decode prog_10_method_32_code 18 = .ok (.aload_n 0, 1) := by decide +kernel
theorem d_M_take_19 : decode prog_10_method_32_code 19 = .ok (.iconst 0, 1) := by decide +kernel
theorem d_M_take_20 : decode prog_10_method_32_code 20 = .ok (.putfield 96, 3) := by decide +kernel
theorem d_M_take_23 : decode prog_10_method_32_code 23 = .ok (.aload_n 0, 1) := by decide +kernel
theorem d_M_take_24 : decode prog_10_method_32_code 24 = .ok (.iconst 0, 1) := by decide +kernel
theorem d_M_take_25 : decode prog_10_method_32_code 25 = .ok (.putfield 121, 3) := by decide +kernel
theorem d_M_take_28 : decode prog_10_method_32_code 28 = .ok (.aload_n 0, 1) := by decide +kernel
theorem d_M_take_29 : decode prog_10_method_32_code 29 = .ok (.iconst 0, 1) := by decide +kernel
theorem d_M_take_30 : decode prog_10_method_32_code 30 = .ok (.putfield 118, 3) := by decide +kernel
theorem d_M_take_33 : decode prog_10_method_32_code 33 = .ok (.aload_n 0, 1) := by decide +kernel
theorem d_M_take_34 : decode prog_10_method_32_code 34 = .ok (.iconst 0, 1) := by decide +kernel
theorem d_M_take_35 : decode prog_10_method_32_code 35 = .ok (.putfield 128, 3) := by decide +kernel
theorem d_M_take_38 : decode prog_10_method_32_code 38 = .ok (.aload_n 0, 1) := by decide +kernel
theorem d_M_take_39 : decode prog_10_method_32_code 39 = .ok (.iconst 0, 1) := by decide +kernel
theorem d_M_take_40 : decode prog_10_method_32_code 40 = .ok (.putfield 137, 3) := by decide +kernel
theorem d_M_take_43 : decode prog_10_method_32_code 43 = .ok (.aload_n 0, 1) := by decide +kernel
theorem d_M_take_44 : decode prog_10_method_32_code 44 = .ok (.iconst 0, 1) := by decide +kernel
theorem d_M_take_45 : decode prog_10_method_32_code 45 = .ok (.putfield 131, 3) := by decide +kernel
theorem d_M_take_48 : decode prog_10_method_32_code 48 = .ok (.iconst 1, 1) := by decide +kernel
theorem d_M_take_49 : decode prog_10_method_32_code 49 = .ok (.istore_n 1, 1) := by decide +kernel
theorem d_M_take_50 : decode prog_10_method_32_code 50 = .ok (.iconst 0, 1) := by decide +kernel
theorem d_M_take_51 : decode prog_10_method_32_code 51 = .ok (.istore_n 2, 1) := by decide +kernel
theorem d_M_take_52 : decode prog_10_method_32_code 52 = .ok (.iload_n 2, 1) := by decide +kernel
theorem d_M_take_53 : decode prog_10_method_32_code 53 = .ok (.ifCond .ne (71), 3) := by decide +kernel
theorem d_M_take_56 : decode prog_10_method_32_code 56 = .ok (.aload_n 0, 1) := by decide +kernel
theorem d_M_take_57 : decode prog_10_method_32_code 57 = .ok (.getfield 118, 3) := by decide +kernel
theorem d_M_take_60 : decode prog_10_method_32_code 60 = .ok (.ifCond .ne (64), 3) := by decide +kernel
theorem d_M_take_63 : decode prog_10_method_32_code 63 = .ok (.aload_n 0, 1) := by decide +kernel
theorem d_M_take_64 : decode prog_10_method_32_code 64 = .ok (.invokevirtual 193, 3) := by decide +kernel
theorem d_M_take_67 : decode prog_10_method_32_code 67 = .ok (.iload_n 1, 1) := by decide +kernel
theorem d_M_take_68 : decode prog_10_method_32_code 68 = .ok (.ifCond .eq (34), 3) := by decide +kernel
theorem d_M_take_71 : decode prog_10_method_32_code 71 = .ok (.aload_n 0, 1) := by decide +kernel
theorem d_M_take_72 : decode prog_10_method_32_code 72 = .ok (.invokevirtual 205, 3) := by decide +kernel
theorem d_M_take_75 : decode prog_10_method_32_code 75 = .ok (.ifCond .ne (7), 3) := by decide +kernel
theorem d_M_take_78 : decode prog_10_method_32_code 78 = .ok (.iconst 1, 1) := by decide +kernel
theorem d_M_take_79 : decode prog_10_method_32_code 79 = .ok (.goto (4), 3) := by decide +kernel
theorem d_M_take_82 : decode prog_10_method_32_code 82 = .ok (.iconst 0, 1) := by decide +kernel
theorem d_M_take_83 : decode prog_10_method_32_code 83 = .ok (.istore_n 1, 1) := by decide +kernel
theorem d_M_take_84 : decode prog_10_method_32_code 84 = .ok (.iload_n 1, 1) := by decide +kernel
theorem d_M_take_85 : decode prog_10_method_32_code 85 = .ok (.ifCond .ne (-33), 3) := by decide +kernel
theorem d_M_take_88 : decode prog_10_method_32_code 88 = .ok (.aload_n 0, 1) := by decide +kernel
theorem d_M_take_89 : decode prog_10_method_32_code 89 = .ok (.getfield 118, 3) := by decide +kernel
theorem d_M_take_92 : decode prog_10_method_32_code 92 = .ok (.ifCond .ne (-40), 3) := by decide +kernel
theorem d_M_take_95 : decode prog_10_method_32_code 95 = .ok (.aload_n 0, 1) := by decide +kernel
theorem d_M_take_96 : decode prog_10_method_32_code 96 = .ok (.invokevirtual 202, 3) := by decide +kernel
theorem d_M_take_99 : decode prog_10_method_32_code 99 = .ok (.goto (-47), 3) := by decide +kernel
theorem d_M_take_102 : decode prog_10_method_32_code 102 = .ok (.aload_n 0, 1) := by decide +kernel
theorem d_M_take_103 : decode prog_10_method_32_code 103 = .ok (.getfield 103, 3) := by decide +kernel
theorem d_M_take_106 : decode prog_10_method_32_code 106 = .ok (.iconst 1, 1) := by decide +kernel
theorem d_M_take_107 : decode prog_10_method_32_code 107 = .ok (.if_icmp .ne (7), 3) := by decide +kernel
theorem d_M_take_110 : decode prog_10_method_32_code 110 = .ok (.iconst 1, 1) := by decide +kernel
theorem d_M_take_111 : decode prog_10_method_32_code 111 = .ok (.goto (4), 3) := by decide +kernel
theorem d_M_take_114 : decode prog_10_method_32_code 114 = .ok (.iconst 0, 1) := by decide +kernel
theorem d_M_take_115 : decode prog_10_method_32_code 115 = .ok (.istore_n 2, 1) := by decide +kernel
theorem d_M_take_116 : decode prog_10_method_32_code 116 = .ok (.aload_n 0, 1) := by decide +kernel
theorem d_M_take_117 : decode prog_10_method_32_code 117 = .ok (.invokevirtual 209, 3) := by decide +kernel
theorem d_M_take_120 : decode prog_10_method_32_code 120 = .ok (.istore_n 1, 1) := by decide +kernel
theorem d_M_take_121 : decode prog_10_method_32_code 121 = .ok (.goto (-69), 3) := by decide +kernel
theorem d_M_take_124 : decode prog_10_method_32_code 124 = .ok (.aload_n 0, 1) := by decide +kernel
theorem d_M_take_125 : decode prog_10_method_32_code 125 = .ok (.getfield 118, 3) := by decide +kernel
theorem d_M_take_128 : decode prog_10_method_32_code 128 = .ok (.ifCond .le (8), 3) := by decide +kernel
theorem d_M_take_131 : decode prog_10_method_32_code 131 = .ok (.aload_n 0, 1) := by decide +kernel
theorem d_M_take_132 : decode prog_10_method_32_code 132 = .ok (.getfield 118, 3) := by decide +kernel
theorem d_M_take_135 : decode prog_10_method_32_code 135 = .ok (.ireturn, 1) := by decide +kernel
theorem d_M_take_136 : decode prog_10_method_32_code 136 = .ok (.aload_n 0, 1) := by decide +kernel
theorem d_M_take_137 : decode prog_10_method_32_code 137 = .ok (.aload_n 0, 1) := by decide +kernel
theorem d_M_take_138 : decode prog_10_method_32_code 138 = .ok (.getfield 121, 3) := by decide +kernel
theorem d_M_take_141 : decode prog_10_method_32_code 141 = .ok (.putfield 212, 3) := by decide +kernel
theorem d_M_take_144 : decode prog_10_method_32_code 144 = .ok (.iconst 0, 1) := by decide +kernel
theorem d_M_take_145 : decode prog_10_method_32_code 145 = .ok (.istore_n 3, 1) := by decide +kernel
theorem d_M_take_146 : decode prog_10_method_32_code 146 = .ok (.iload_n 3, 1) := by decide +kernel
theorem d_M_take_147 : decode prog_10_method_32_code 147 = .ok (.aload_n 0, 1) := by decide +kernel
theorem d_M_take_148 : decode prog_10_method_32_code 148 = .ok (.getfield 121, 3) := by decide +kernel
theorem d_M_take_151 : decode prog_10_method_32_code 151 = .ok (.if_icmp .ge (159), 3) := by decide +kernel
theorem d_M_take_154 : decode prog_10_method_32_code 154 = .ok (.aload_n 0, 1) := by decide +kernel
theorem d_M_take_155 : decode prog_10_method_32_code 155 = .ok (.getfield 22, 3) := by decide +kernel
theorem d_M_take_158 : decode prog_10_method_32_code 158 = .ok (.bipush (100), 2) := by decide +kernel
theorem d_M_take_160 : decode prog_10_method_32_code 160 = .ok (.iload_n 3, 1) := by decide +kernel
theorem d_M_take_161 : decode prog_10_method_32_code 161 = .ok (.iadd, 1) := by decide +kernel
theorem d_M_take_162 : decode prog_10_method_32_code 162 = .ok (.aload_n 0, 1) := by decide +kernel
theorem d_M_take_163 : decode prog_10_method_32_code 163 = .ok (.getfield 22, 3) := by decide +kernel
theorem d_M_take_166 : decode prog_10_method_32_code 166 = .ok (.iload_n 3, 1) := by decide +kernel
theorem d_M_take_167 : decode prog_10_method_32_code 167 = .ok (.iaload, 1) := by decide +kernel
theorem d_M_take_168 : decode prog_10_method_32_code 168 = .ok (.iastore, 1) := by decide +kernel
theorem d_M_take_169 : decode prog_10_method_32_code 169 = .ok (.aload_n 0, 1) := by decide +kernel
theorem d_M_take_170 : decode prog_10_method_32_code 170 = .ok (.getfield 25, 3) := by decide +kernel
theorem d_M_take_173 : decode prog_10_method_32_code 173 = .ok (.bipush (100), 2) := by decide +kernel
theorem d_M_take_175 : decode prog_10_method_32_code 175 = .ok (.iload_n 3, 1) := by decide +kernel
theorem d_M_take_176 : decode prog_10_method_32_code 176 = .ok (.iadd, 1) := by decide +kernel
theorem d_M_take_177 : decode prog_10_method_32_code 177 = .ok (.aload_n 0, 1) := by decide +kernel
theorem d_M_take_178 : decode prog_10_method_32_code 178 = .ok (.getfield 25, 3) := by decide +kernel
theorem d_M_take_181 : decode prog_10_method_32_code 181 = .ok (.iload_n 3, 1) := by decide +kernel
theorem d_M_take_182 : decode prog_10_method_32_code 182 = .ok (.iaload, 1) := by decide +kernel
theorem d_M_take_183 : decode prog_10_method_32_code 183 = .ok (.iastore, 1) := by decide +kernel
theorem d_M_take_184 : decode prog_10_method_32_code 184 = .ok (.aload_n 0, 1) := by decide +kernel
theorem d_M_take_185 : decode prog_10_method_32_code 185 = .ok (.getfield 28, 3) := by decide +kernel
theorem d_M_take_188 : decode prog_10_method_32_code 188 = .ok (.bipush (100), 2) := by decide +kernel
theorem d_M_take_190 : decode prog_10_method_32_code 190 = .ok (.iload_n 3, 1) := by decide +kernel
theorem d_M_take_191 : decode prog_10_method_32_code 191 = .ok (.iadd, 1) := by decide +kernel
theorem d_M_take_192 : decode prog_10_method_32_code 192 = .ok (.aload_n 0, 1) := by decide +kernel
theorem d_M_take_193 : decode prog_10_method_32_code 193 = .ok (.getfield 28, 3) := by decide +kernel
theorem d_M_take_196 : decode prog_10_method_32_code 196 = .ok (.iload_n 3, 1) := by decide +kernel
theorem d_M_take_197 : decode prog_10_method_32_code 197 = .ok (.iaload, 1) := by decide +kernel
theorem d_M_take_198 : decode prog_10_method_32_code 198 = .ok (.iastore, 1) := by decide +kernel
theorem d_M_take_199 : decode prog_10_method_32_code 199 = .ok (.aload_n 0, 1) := by decide +kernel
theorem d_M_take_200 : decode prog_10_method_32_code 200 = .ok (.getfield 31, 3) := by decide +kernel
theorem d_M_take_203 : decode prog_10_method_32_code 203 = .ok (.bipush (100), 2) := by decide +kernel
theorem d_M_take_205 : decode prog_10_method_32_code 205 = .ok (.iload_n 3, 1) := by decide +kernel
theorem d_M_take_206 : decode prog_10_method_32_code 206 = .ok (.iadd, 1) := by decide +kernel
theorem d_M_take_207 : decode prog_10_method_32_code 207 = .ok (.aload_n 0, 1) := by decide +kernel
theorem d_M_take_208 : decode prog_10_method_32_code 208 = .ok (.getfield 31, 3) := by decide +kernel
theorem d_M_take_211 : decode prog_10_method_32_code 211 = .ok (.iload_n 3, 1) := by decide +kernel
theorem d_M_take_212 : decode prog_10_method_32_code 212 = .ok (.laload, 1) := by decide +kernel
theorem d_M_take_213 : decode prog_10_method_32_code 213 = .ok (.lastore, 1) := by decide +kernel
theorem d_M_take_214 : decode prog_10_method_32_code 214 = .ok (.aload_n 0, 1) := by decide +kernel
theorem d_M_take_215 : decode prog_10_method_32_code 215 = .ok (.getfield 35, 3) := by decide +kernel
theorem d_M_take_218 : decode prog_10_method_32_code 218 = .ok (.bipush (100), 2) := by decide +kernel
theorem d_M_take_220 : decode prog_10_method_32_code 220 = .ok (.iload_n 3, 1) := by decide +kernel
theorem d_M_take_221 : decode prog_10_method_32_code 221 = .ok (.iadd, 1) := by decide +kernel
theorem d_M_take_222 : decode prog_10_method_32_code 222 = .ok (.aload_n 0, 1) := by decide +kernel
theorem d_M_take_223 : decode prog_10_method_32_code 223 = .ok (.getfield 35, 3) := by decide +kernel
theorem d_M_take_226 : decode prog_10_method_32_code 226 = .ok (.iload_n 3, 1) := by decide +kernel
theorem d_M_take_227 : decode prog_10_method_32_code 227 = .ok (.laload, 1) := by decide +kernel
theorem d_M_take_228 : decode prog_10_method_32_code 228 = .ok (.lastore, 1) := by decide +kernel
theorem d_M_take_229 : decode prog_10_method_32_code 229 = .ok (.aload_n 0, 1) := by decide +kernel
theorem d_M_take_230 : decode prog_10_method_32_code 230 = .ok (.getfield 38, 3) := by decide +kernel
theorem d_M_take_233 : decode prog_10_method_32_code 233 = .ok (.bipush (100), 2) := by decide +kernel
theorem d_M_take_235 : decode prog_10_method_32_code 235 = .ok (.iload_n 3, 1) := by decide +kernel
theorem d_M_take_236 : decode prog_10_method_32_code 236 = .ok (.iadd, 1) := by decide +kernel
theorem d_M_take_237 : decode prog_10_method_32_code 237 = .ok (.aload_n 0, 1) := by decide +kernel
theorem d_M_take_238 : decode prog_10_method_32_code 238 = .ok (.getfield 38, 3) := by decide +kernel
theorem d_M_take_241 : decode prog_10_method_32_code 241 = .ok (.iload_n 3, 1) := by decide +kernel
theorem d_M_take_242 : decode prog_10_method_32_code 242 = .ok (.iaload, 1) := by decide +kernel
theorem d_M_take_243 : decode prog_10_method_32_code 243 = .ok (.iastore, 1) := by decide +kernel
theorem d_M_take_244 : decode prog_10_method_32_code 244 = .ok (.aload_n 0, 1) := by decide +kernel
theorem d_M_take_245 : decode prog_10_method_32_code 245 = .ok (.getfield 41, 3) := by decide +kernel
theorem d_M_take_248 : decode prog_10_method_32_code 248 = .ok (.bipush (100), 2) := by decide +kernel
theorem d_M_take_250 : decode prog_10_method_32_code 250 = .ok (.iload_n 3, 1) := by decide +kernel
theorem d_M_take_251 : decode prog_10_method_32_code 251 = .ok (.iadd, 1) := by decide +kernel
theorem d_M_take_252 : decode prog_10_method_32_code 252 = .ok (.aload_n 0, 1) := by decide +kernel
theorem d_M_take_253 : decode prog_10_method_32_code 253 = .ok (.getfield 41, 3) := by decide +kernel
theorem d_M_take_256 : decode prog_10_method_32_code 256 = .ok (.iload_n 3, 1) := by decide +kernel
theorem d_M_take_257 : decode prog_10_method_32_code 257 = .ok (.iaload, 1) := by decide +kernel
theorem d_M_take_258 : decode prog_10_method_32_code 258 = .ok (.iastore, 1) := by decide +kernel
theorem d_M_take_259 : decode prog_10_method_32_code 259 = .ok (.aload_n 0, 1) := by decide +kernel
theorem d_M_take_260 : decode prog_10_method_32_code 260 = .ok (.getfield 44, 3) := by decide +kernel
theorem d_M_take_263 : decode prog_10_method_32_code 263 = .ok (.bipush (100), 2) := by decide +kernel
theorem d_M_take_265 : decode prog_10_method_32_code 265 = .ok (.iload_n 3, 1) := by decide +kernel
theorem d_M_take_266 : decode prog_10_method_32_code 266 = .ok (.iadd, 1) := by decide +kernel
theorem d_M_take_267 : decode prog_10_method_32_code 267 = .ok (.aload_n 0, 1) := by decide +kernel
theorem d_M_take_268 : decode prog_10_method_32_code 268 = .ok (.getfield 44, 3) := by decide +kernel
theorem d_M_take_271 : decode prog_10_method_32_code 271 = .ok (.iload_n 3, 1) := by decide +kernel
theorem d_M_take_272 : decode prog_10_method_32_code 272 = .ok (.iaload, 1) := by decide +kernel
theorem d_M_take_273 : decode prog_10_method_32_code 273 = .ok (.iastore, 1) := by decide +kernel
theorem d_M_take_274 : decode prog_10_method_32_code 274 = .ok (.aload_n 0, 1) := by decide +kernel
theorem d_M_take_275 : decode prog_10_method_32_code 275 = .ok (.getfield 47, 3) := by decide +kernel
theorem d_M_take_278 : decode prog_10_method_32_code 278 = .ok (.bipush (100), 2) := by decide +kernel
theorem d_M_take_280 : decode prog_10_method_32_code 280 = .ok (.iload_n 3, 1) := by decide +kernel
theorem d_M_take_281 : decode prog_10_method_32_code 281 = .ok (.iadd, 1) := by decide +kernel
theorem d_M_take_282 : decode prog_10_method_32_code 282 = .ok (.aload_n 0, 1) := by decide +kernel
theorem d_M_take_283 : decode prog_10_method_32_code 283 = .ok (.getfield 47, 3) := by decide +kernel
theorem d_M_take_286 : decode prog_10_method_32_code 286 = .ok (.iload_n 3, 1) := by decide +kernel
theorem d_M_take_287 : decode prog_10_method_32_code 287 = .ok (.iaload, 1) := by decide +kernel
theorem d_M_take_288 : decode prog_10_method_32_code 288 = .ok (.iastore, 1) := by decide +kernel
theorem d_M_take_289 : decode prog_10_method_32_code 289 = .ok (.aload_n 0, 1) := by decide +kernel
theorem d_M_take_290 : decode prog_10_method_32_code 290 = .ok (.getfield 50, 3) := by decide +kernel
theorem d_M_take_293 : decode prog_10_method_32_code 293 = .ok (.bipush (100), 2) := by decide +kernel
theorem d_M_take_295 : decode prog_10_method_32_code 295 = .ok (.iload_n 3, 1) := by decide +kernel
theorem d_M_take_296 : decode prog_10_method_32_code 296 = .ok (.iadd, 1) := by decide +kernel
theorem d_M_take_297 : decode prog_10_method_32_code 297 = .ok (.aload_n 0, 1) := by decide +kernel
theorem d_M_take_298 : decode prog_10_method_32_code 298 = .ok (.getfield 50, 3) := by decide +kernel
theorem d_M_take_301 : decode prog_10_method_32_code 301 = .ok (.iload_n 3, 1) := by decide +kernel
theorem d_M_take_302 : decode prog_10_method_32_code 302 = .ok (.laload, 1) := by decide +kernel
theorem d_M_take_303 : decode prog_10_method_32_code 303 = .ok (.lastore, 1) := by decide +kernel
theorem d_M_take_304 : decode prog_10_method_32_code 304 = .ok (.iinc 3 (1), 3) := by decide +kernel
theorem d_M_take_307 : decode prog_10_method_32_code 307 = .ok (.goto (-161), 3) := by decide +kernel
theorem d_M_take_310 : decode prog_10_method_32_code 310 = .ok (.iconst 0, 1) := by decide +kernel
theorem d_M_take_311 : decode prog_10_method_32_code 311 = .ok (.ireturn, 1) := by decide +kernel
def b_M_take_83 (post : Int32 → zH → Prop) (rc : Int32 → Int32 → zH → Prop) (l2 : Int32) (s0 : Int32) (h : zH) : Prop := ((¬ s0 = 0 → rc (s0) (l2) h) ∧ (s0 = 0 → ((¬ (h.1 39 24) = 0 → rc (s0) (l2) h) ∧ ((h.1 39 24) = 0 → wp_M_wasRead  h (fun (h2 : zH) => rc (s0) (l2) h2)))))
def b_M_take_115 (post : Int32 → zH → Prop) (rc : Int32 → Int32 → zH → Prop) (s0 : Int32) (h : zH) : Prop := wp_M_goesOn  h (fun (r3 : Int32) (h4 : zH) => rc (r3) (s0) h4)
def b_M_take_146 (post : Int32 → zH → Prop) : Nat → Int32 → zH → Prop
  | 0, _, _ => False
  | n + 1, l3, h => (fun rc : Int32 → zH → Prop => (((h.1 39 22) ≤ l3 → post 0 h) ∧ (¬ (h.1 39 22) ≤ l3 → (vp_in l3 200 ∧ (vp_in (100 + l3) 200 ∧ ∀ h5 : zH, h5 = zi h 44 ((100 + l3) : Int32).toNatClampNeg (h.1 44 (l3 : Int32).toNatClampNeg) → (vp_in l3 200 ∧ (vp_in (100 + l3) 200 ∧ ∀ h6 : zH, h6 = zi h5 45 ((100 + l3) : Int32).toNatClampNeg (h5.1 45 (l3 : Int32).toNatClampNeg) → (vp_in l3 200 ∧ (vp_in (100 + l3) 200 ∧ ∀ h7 : zH, h7 = zi h6 46 ((100 + l3) : Int32).toNatClampNeg (h6.1 46 (l3 : Int32).toNatClampNeg) → (vp_in l3 200 ∧ (vp_in (100 + l3) 200 ∧ ∀ h8 : zH, h8 = zl h7 47 ((100 + l3) : Int32).toNatClampNeg (h7.2.1 47 (l3 : Int32).toNatClampNeg) → (vp_in l3 200 ∧ (vp_in (100 + l3) 200 ∧ ∀ h9 : zH, h9 = zl h8 48 ((100 + l3) : Int32).toNatClampNeg (h8.2.1 48 (l3 : Int32).toNatClampNeg) → (vp_in l3 200 ∧ (vp_in (100 + l3) 200 ∧ ∀ h10 : zH, h10 = zi h9 49 ((100 + l3) : Int32).toNatClampNeg (h9.1 49 (l3 : Int32).toNatClampNeg) → (vp_in l3 200 ∧ (vp_in (100 + l3) 200 ∧ ∀ h11 : zH, h11 = zi h10 50 ((100 + l3) : Int32).toNatClampNeg (h10.1 50 (l3 : Int32).toNatClampNeg) → (vp_in l3 200 ∧ (vp_in (100 + l3) 200 ∧ ∀ h12 : zH, h12 = zi h11 51 ((100 + l3) : Int32).toNatClampNeg (h11.1 51 (l3 : Int32).toNatClampNeg) → (vp_in l3 200 ∧ (vp_in (100 + l3) 200 ∧ ∀ h13 : zH, h13 = zi h12 52 ((100 + l3) : Int32).toNatClampNeg (h12.1 52 (l3 : Int32).toNatClampNeg) → (vp_in l3 200 ∧ (vp_in (100 + l3) 200 ∧ ∀ h14 : zH, h14 = zl h13 53 ((100 + l3) : Int32).toNatClampNeg (h13.2.1 53 (l3 : Int32).toNatClampNeg) → rc ((l3 + 1)) h14))))))))))))))))))))))) (b_M_take_146 post n)
def b_M_take_124 (post : Int32 → zH → Prop) (h : zH) : Prop := (((h.1 39 24) ≤ 0 → (∀ h15 : zH, h15 = zi h 39 23 (h.1 39 22) → (∃ n : Nat, b_M_take_146 post n (0) h15))) ∧ (¬ (h.1 39 24) ≤ 0 → post (h.1 39 24) h))
def b_M_take_52 (post : Int32 → zH → Prop) : Nat → Int32 → Int32 → zH → Prop
  | 0, _, _, _ => False
  | n + 1, l1, l2, h => (fun rc : Int32 → Int32 → zH → Prop => ((¬ l2 = 0 → b_M_take_124 post  h) ∧ (l2 = 0 → ((¬ (h.1 39 24) = 0 → b_M_take_124 post  h) ∧ ((h.1 39 24) = 0 → wp_M_next  h (fun (h17 : zH) => ((l1 = 0 → ((¬ (h17.1 39 8) = 1 → b_M_take_115 post rc (0) h17) ∧ ((h17.1 39 8) = 1 → b_M_take_115 post rc (1) h17))) ∧ (¬ l1 = 0 → wp_M_begins  h17 (fun (r18 : Int32) (h19 : zH) => ((¬ r18 = 0 → b_M_take_83 post rc (l2) (0) h19) ∧ (r18 = 0 → b_M_take_83 post rc (l2) (1) h19))))))))))) (b_M_take_52 post n)
def wp_M_take (h : zH) (post : Int32 → zH → Prop) : Prop := (∀ h20 : zH, h20 = zi h 39 0 0 → (∀ h21 : zH, h21 = zi h20 39 7 (h20.1 39 6) → (∀ h22 : zH, h22 = zi h21 39 6 0 → (∀ h23 : zH, h23 = zi h22 39 10 0 → (∀ h24 : zH, h24 = zi h23 39 22 0 → (∀ h25 : zH, h25 = zi h24 39 24 0 → (∀ h26 : zH, h26 = zi h25 39 28 0 → (∀ h27 : zH, h27 = zi h26 39 30 0 → (∀ h28 : zH, h28 = zi h27 39 31 0 → (∃ n : Nat, b_M_take_52 post n (1) (0) h28))))))))))
set_option maxRecDepth 100000 in
set_option maxHeartbeats 4000000 in
theorem w_M_take_83 {l : Launch} {E : zE} {G : (Nat → Prop) → State → Prop} {p : Program} {e : Env} {s : State} {m : MethodId} {args : Array Value} {below : List Frame} {meth : Method} {c : Code} {A : Nat → Prop} {post : Int32 → zH → Prop} (hG : xGG E G) (C : zCx p s m args meth c E G A 7 177 prog_10_method_32_code 4 cn_M) (hr : meth.sig.returnType = (some .int)) {rc : Int32 → Int32 → zH → Prop} (hrc : ∀ (l1 : Int32) (l2 : Int32) (h : zH), rc l1 l2 h → zGo p l e s m args below meth c E A 7 177 4 (zPi post) h 52 [some (.ref (E.2.2.1 39)), some (.int l1), some (.int l2), none] []) (l2 : Int32) (s0 : Int32) (h : zH) (hw : b_M_take_83 post rc l2 s0 h) : zGo p l e s m args below meth c E A 7 177 4 (zPi post) h 83 [some (.ref (E.2.2.1 39)), none, some (.int l2), none] [.int s0] := by
  unfold b_M_take_83 at hw
  refine z_istore_n C (i := 1) d_M_take_83 rfl (by decide) rfl ?_
  refine z_iload_n C (i := 1) d_M_take_84 rfl rfl ?_
  refine z_if_ne C (tgt := 52) d_M_take_85 (by decide) (fun q => ?_) (fun q => ?_)
  · replace hw := hw.1 q
    refine z_le (lv2 := [some (.ref (E.2.2.1 39)), some (.int s0), some (.int l2), none]) (⟨rfl, ⟨rfl, ⟨rfl, trivial⟩⟩⟩) ?_
    exact hrc _ _ _ hw
  · replace hw := hw.2 q
    refine z_aload_n C (i := 0) d_M_take_88 rfl rfl ?_
    refine z_getI C (ci := 8) (j := 24) (F := cf_M) (by decide) rfl rfl in_M (by decide) fl_M_118 rfl d_M_take_89 ?_
    refine z_if_ne C (tgt := 52) d_M_take_92 (by decide) (fun q => ?_) (fun q => ?_)
    · replace hw := hw.1 q
      refine z_le (lv2 := [some (.ref (E.2.2.1 39)), some (.int s0), some (.int l2), none]) (⟨rfl, ⟨rfl, ⟨rfl, trivial⟩⟩⟩) ?_
      exact hrc _ _ _ hw
    · replace hw := hw.2 q
      refine z_aload_n C (i := 0) d_M_take_95 rfl rfl ?_
      refine z_callVv ⟨xN_ok, hG.1⟩ zT_good C (t_M_wasRead hG hw) ol_M_202 (by decide) rfl rfl (by decide) (by decide) pl_M_wasRead rfl rfl (Nat.le_of_ble_eq_true rfl) d_M_take_96 (fun h2 hw => ?_)
      refine z_goto C (tgt := 52) d_M_take_99 (by decide) ?_
      refine z_le (lv2 := [some (.ref (E.2.2.1 39)), some (.int s0), some (.int l2), none]) (⟨rfl, ⟨rfl, ⟨rfl, trivial⟩⟩⟩) ?_
      exact hrc _ _ _ hw
set_option maxRecDepth 100000 in
set_option maxHeartbeats 4000000 in
theorem w_M_take_115 {l : Launch} {E : zE} {G : (Nat → Prop) → State → Prop} {p : Program} {e : Env} {s : State} {m : MethodId} {args : Array Value} {below : List Frame} {meth : Method} {c : Code} {A : Nat → Prop} {post : Int32 → zH → Prop} (hG : xGG E G) (C : zCx p s m args meth c E G A 7 177 prog_10_method_32_code 4 cn_M) (hr : meth.sig.returnType = (some .int)) {rc : Int32 → Int32 → zH → Prop} (hrc : ∀ (l1 : Int32) (l2 : Int32) (h : zH), rc l1 l2 h → zGo p l e s m args below meth c E A 7 177 4 (zPi post) h 52 [some (.ref (E.2.2.1 39)), some (.int l1), some (.int l2), none] []) (s0 : Int32) (h : zH) (hw : b_M_take_115 post rc s0 h) : zGo p l e s m args below meth c E A 7 177 4 (zPi post) h 115 [some (.ref (E.2.2.1 39)), none, none, none] [.int s0] := by
  unfold b_M_take_115 at hw
  refine z_istore_n C (i := 2) d_M_take_115 rfl (by decide) rfl ?_
  refine z_aload_n C (i := 0) d_M_take_116 rfl rfl ?_
  refine z_callVi ⟨xN_ok, hG.1⟩ zT_good C (t_M_goesOn hG hw) ol_M_209 (by decide) rfl rfl (by decide) (by decide) pl_M_goesOn rfl rfl (Nat.le_of_ble_eq_true rfl) d_M_take_117 (fun r3 h4 hw => ?_)
  refine z_istore_n C (i := 1) d_M_take_120 rfl (by decide) rfl ?_
  refine z_goto C (tgt := 52) d_M_take_121 (by decide) ?_
  refine z_le (lv2 := [some (.ref (E.2.2.1 39)), some (.int r3), some (.int s0), none]) (⟨rfl, ⟨rfl, ⟨rfl, trivial⟩⟩⟩) ?_
  exact hrc _ _ _ hw
set_option maxRecDepth 100000 in
set_option maxHeartbeats 4000000 in
theorem w_M_take_146 {l : Launch} {E : zE} {G : (Nat → Prop) → State → Prop} {p : Program} {e : Env} {s : State} {m : MethodId} {args : Array Value} {below : List Frame} {meth : Method} {c : Code} {A : Nat → Prop} {post : Int32 → zH → Prop} (hG : xGG E G) (C : zCx p s m args meth c E G A 7 177 prog_10_method_32_code 4 cn_M) (hr : meth.sig.returnType = (some .int)) : ∀ (n : Nat) (l3 : Int32) (h : zH), b_M_take_146 post n l3 h → zGo p l e s m args below meth c E A 7 177 4 (zPi post) h 146 [some (.ref (E.2.2.1 39)), none, none, some (.int l3)] [] := by
  intro n
  induction n with
  | zero => intro l3 h hw; exact False.elim hw
  | succ n hrc =>
    intro l3 h hw
    unfold b_M_take_146 at hw
    refine z_iload_n C (i := 3) d_M_take_146 rfl rfl ?_
    refine z_aload_n C (i := 0) d_M_take_147 rfl rfl ?_
    refine z_getI C (ci := 8) (j := 22) (F := cf_M) (by decide) rfl rfl in_M (by decide) fl_M_121 rfl d_M_take_148 ?_
    refine z_icmp_ge C (tgt := 310) d_M_take_151 (by decide) (fun q => ?_) (fun q => ?_)
    · replace hw := hw.1 q
      refine z_iconst C (v := 0) d_M_take_310 (by decide) ?_
      exact z_iret C hr d_M_take_311 hw
    · replace hw := hw.2 q
      refine z_aload_n C (i := 0) d_M_take_154 rfl rfl ?_
      refine z_getS C (ci := 8) (j := 12) (F := cf_M) (by decide) rfl rfl in_M (by decide) fl_M_22 rfl d_M_take_155 ?_
      refine z_bipush C (v := 100) d_M_take_158 (by decide) ?_
      refine z_iload_n C (i := 3) d_M_take_160 rfl rfl ?_
      refine z_iadd C d_M_take_161 ?_
      refine z_aload_n C (i := 0) d_M_take_162 rfl rfl ?_
      refine z_getS C (ci := 8) (j := 12) (F := cf_M) (by decide) rfl rfl in_M (by decide) fl_M_22 rfl d_M_take_163 ?_
      refine z_iload_n C (i := 3) d_M_take_166 rfl rfl ?_
      refine z_iald C (by decide) rfl hw.1 d_M_take_167 ?_
      replace hw := hw.2
      refine z_iast C (by decide) rfl hw.1 d_M_take_168 (fun h5 eh5 => ?_)
      replace hw := hw.2 h5 eh5
      refine z_aload_n C (i := 0) d_M_take_169 rfl rfl ?_
      refine z_getS C (ci := 8) (j := 13) (F := cf_M) (by decide) rfl rfl in_M (by decide) fl_M_25 rfl d_M_take_170 ?_
      refine z_bipush C (v := 100) d_M_take_173 (by decide) ?_
      refine z_iload_n C (i := 3) d_M_take_175 rfl rfl ?_
      refine z_iadd C d_M_take_176 ?_
      refine z_aload_n C (i := 0) d_M_take_177 rfl rfl ?_
      refine z_getS C (ci := 8) (j := 13) (F := cf_M) (by decide) rfl rfl in_M (by decide) fl_M_25 rfl d_M_take_178 ?_
      refine z_iload_n C (i := 3) d_M_take_181 rfl rfl ?_
      refine z_iald C (by decide) rfl hw.1 d_M_take_182 ?_
      replace hw := hw.2
      refine z_iast C (by decide) rfl hw.1 d_M_take_183 (fun h6 eh6 => ?_)
      replace hw := hw.2 h6 eh6
      refine z_aload_n C (i := 0) d_M_take_184 rfl rfl ?_
      refine z_getS C (ci := 8) (j := 14) (F := cf_M) (by decide) rfl rfl in_M (by decide) fl_M_28 rfl d_M_take_185 ?_
      refine z_bipush C (v := 100) d_M_take_188 (by decide) ?_
      refine z_iload_n C (i := 3) d_M_take_190 rfl rfl ?_
      refine z_iadd C d_M_take_191 ?_
      refine z_aload_n C (i := 0) d_M_take_192 rfl rfl ?_
      refine z_getS C (ci := 8) (j := 14) (F := cf_M) (by decide) rfl rfl in_M (by decide) fl_M_28 rfl d_M_take_193 ?_
      refine z_iload_n C (i := 3) d_M_take_196 rfl rfl ?_
      refine z_iald C (by decide) rfl hw.1 d_M_take_197 ?_
      replace hw := hw.2
      refine z_iast C (by decide) rfl hw.1 d_M_take_198 (fun h7 eh7 => ?_)
      replace hw := hw.2 h7 eh7
      refine z_aload_n C (i := 0) d_M_take_199 rfl rfl ?_
      refine z_getS C (ci := 8) (j := 15) (F := cf_M) (by decide) rfl rfl in_M (by decide) fl_M_31 rfl d_M_take_200 ?_
      refine z_bipush C (v := 100) d_M_take_203 (by decide) ?_
      refine z_iload_n C (i := 3) d_M_take_205 rfl rfl ?_
      refine z_iadd C d_M_take_206 ?_
      refine z_aload_n C (i := 0) d_M_take_207 rfl rfl ?_
      refine z_getS C (ci := 8) (j := 15) (F := cf_M) (by decide) rfl rfl in_M (by decide) fl_M_31 rfl d_M_take_208 ?_
      refine z_iload_n C (i := 3) d_M_take_211 rfl rfl ?_
      refine z_lald C (by decide) rfl hw.1 d_M_take_212 ?_
      replace hw := hw.2
      refine z_last C (by decide) rfl hw.1 d_M_take_213 (fun h8 eh8 => ?_)
      replace hw := hw.2 h8 eh8
      refine z_aload_n C (i := 0) d_M_take_214 rfl rfl ?_
      refine z_getS C (ci := 8) (j := 16) (F := cf_M) (by decide) rfl rfl in_M (by decide) fl_M_35 rfl d_M_take_215 ?_
      refine z_bipush C (v := 100) d_M_take_218 (by decide) ?_
      refine z_iload_n C (i := 3) d_M_take_220 rfl rfl ?_
      refine z_iadd C d_M_take_221 ?_
      refine z_aload_n C (i := 0) d_M_take_222 rfl rfl ?_
      refine z_getS C (ci := 8) (j := 16) (F := cf_M) (by decide) rfl rfl in_M (by decide) fl_M_35 rfl d_M_take_223 ?_
      refine z_iload_n C (i := 3) d_M_take_226 rfl rfl ?_
      refine z_lald C (by decide) rfl hw.1 d_M_take_227 ?_
      replace hw := hw.2
      refine z_last C (by decide) rfl hw.1 d_M_take_228 (fun h9 eh9 => ?_)
      replace hw := hw.2 h9 eh9
      refine z_aload_n C (i := 0) d_M_take_229 rfl rfl ?_
      refine z_getS C (ci := 8) (j := 17) (F := cf_M) (by decide) rfl rfl in_M (by decide) fl_M_38 rfl d_M_take_230 ?_
      refine z_bipush C (v := 100) d_M_take_233 (by decide) ?_
      refine z_iload_n C (i := 3) d_M_take_235 rfl rfl ?_
      refine z_iadd C d_M_take_236 ?_
      refine z_aload_n C (i := 0) d_M_take_237 rfl rfl ?_
      refine z_getS C (ci := 8) (j := 17) (F := cf_M) (by decide) rfl rfl in_M (by decide) fl_M_38 rfl d_M_take_238 ?_
      refine z_iload_n C (i := 3) d_M_take_241 rfl rfl ?_
      refine z_iald C (by decide) rfl hw.1 d_M_take_242 ?_
      replace hw := hw.2
      refine z_iast C (by decide) rfl hw.1 d_M_take_243 (fun h10 eh10 => ?_)
      replace hw := hw.2 h10 eh10
      refine z_aload_n C (i := 0) d_M_take_244 rfl rfl ?_
      refine z_getS C (ci := 8) (j := 18) (F := cf_M) (by decide) rfl rfl in_M (by decide) fl_M_41 rfl d_M_take_245 ?_
      refine z_bipush C (v := 100) d_M_take_248 (by decide) ?_
      refine z_iload_n C (i := 3) d_M_take_250 rfl rfl ?_
      refine z_iadd C d_M_take_251 ?_
      refine z_aload_n C (i := 0) d_M_take_252 rfl rfl ?_
      refine z_getS C (ci := 8) (j := 18) (F := cf_M) (by decide) rfl rfl in_M (by decide) fl_M_41 rfl d_M_take_253 ?_
      refine z_iload_n C (i := 3) d_M_take_256 rfl rfl ?_
      refine z_iald C (by decide) rfl hw.1 d_M_take_257 ?_
      replace hw := hw.2
      refine z_iast C (by decide) rfl hw.1 d_M_take_258 (fun h11 eh11 => ?_)
      replace hw := hw.2 h11 eh11
      refine z_aload_n C (i := 0) d_M_take_259 rfl rfl ?_
      refine z_getS C (ci := 8) (j := 19) (F := cf_M) (by decide) rfl rfl in_M (by decide) fl_M_44 rfl d_M_take_260 ?_
      refine z_bipush C (v := 100) d_M_take_263 (by decide) ?_
      refine z_iload_n C (i := 3) d_M_take_265 rfl rfl ?_
      refine z_iadd C d_M_take_266 ?_
      refine z_aload_n C (i := 0) d_M_take_267 rfl rfl ?_
      refine z_getS C (ci := 8) (j := 19) (F := cf_M) (by decide) rfl rfl in_M (by decide) fl_M_44 rfl d_M_take_268 ?_
      refine z_iload_n C (i := 3) d_M_take_271 rfl rfl ?_
      refine z_iald C (by decide) rfl hw.1 d_M_take_272 ?_
      replace hw := hw.2
      refine z_iast C (by decide) rfl hw.1 d_M_take_273 (fun h12 eh12 => ?_)
      replace hw := hw.2 h12 eh12
      refine z_aload_n C (i := 0) d_M_take_274 rfl rfl ?_
      refine z_getS C (ci := 8) (j := 20) (F := cf_M) (by decide) rfl rfl in_M (by decide) fl_M_47 rfl d_M_take_275 ?_
      refine z_bipush C (v := 100) d_M_take_278 (by decide) ?_
      refine z_iload_n C (i := 3) d_M_take_280 rfl rfl ?_
      refine z_iadd C d_M_take_281 ?_
      refine z_aload_n C (i := 0) d_M_take_282 rfl rfl ?_
      refine z_getS C (ci := 8) (j := 20) (F := cf_M) (by decide) rfl rfl in_M (by decide) fl_M_47 rfl d_M_take_283 ?_
      refine z_iload_n C (i := 3) d_M_take_286 rfl rfl ?_
      refine z_iald C (by decide) rfl hw.1 d_M_take_287 ?_
      replace hw := hw.2
      refine z_iast C (by decide) rfl hw.1 d_M_take_288 (fun h13 eh13 => ?_)
      replace hw := hw.2 h13 eh13
      refine z_aload_n C (i := 0) d_M_take_289 rfl rfl ?_
      refine z_getS C (ci := 8) (j := 21) (F := cf_M) (by decide) rfl rfl in_M (by decide) fl_M_50 rfl d_M_take_290 ?_
      refine z_bipush C (v := 100) d_M_take_293 (by decide) ?_
      refine z_iload_n C (i := 3) d_M_take_295 rfl rfl ?_
      refine z_iadd C d_M_take_296 ?_
      refine z_aload_n C (i := 0) d_M_take_297 rfl rfl ?_
      refine z_getS C (ci := 8) (j := 21) (F := cf_M) (by decide) rfl rfl in_M (by decide) fl_M_50 rfl d_M_take_298 ?_
      refine z_iload_n C (i := 3) d_M_take_301 rfl rfl ?_
      refine z_lald C (by decide) rfl hw.1 d_M_take_302 ?_
      replace hw := hw.2
      refine z_last C (by decide) rfl hw.1 d_M_take_303 (fun h14 eh14 => ?_)
      replace hw := hw.2 h14 eh14
      refine z_iinc C (v := l3 + 1) d_M_take_304 rfl rfl (by decide) rfl ?_
      refine z_goto C (tgt := 146) d_M_take_307 (by decide) ?_
      refine z_le (lv2 := [some (.ref (E.2.2.1 39)), none, none, some (.int (l3 + 1))]) (⟨rfl, ⟨rfl, trivial⟩⟩) ?_
      exact hrc _ _ hw
set_option maxRecDepth 100000 in
set_option maxHeartbeats 4000000 in
theorem w_M_take_124 {l : Launch} {E : zE} {G : (Nat → Prop) → State → Prop} {p : Program} {e : Env} {s : State} {m : MethodId} {args : Array Value} {below : List Frame} {meth : Method} {c : Code} {A : Nat → Prop} {post : Int32 → zH → Prop} (hG : xGG E G) (C : zCx p s m args meth c E G A 7 177 prog_10_method_32_code 4 cn_M) (hr : meth.sig.returnType = (some .int))  (h : zH) (hw : b_M_take_124 post  h) : zGo p l e s m args below meth c E A 7 177 4 (zPi post) h 124 [some (.ref (E.2.2.1 39)), none, none, none] [] := by
  unfold b_M_take_124 at hw
  refine z_aload_n C (i := 0) d_M_take_124 rfl rfl ?_
  refine z_getI C (ci := 8) (j := 24) (F := cf_M) (by decide) rfl rfl in_M (by decide) fl_M_118 rfl d_M_take_125 ?_
  refine z_if_le C (tgt := 136) d_M_take_128 (by decide) (fun q => ?_) (fun q => ?_)
  · replace hw := hw.1 q
    refine z_aload_n C (i := 0) d_M_take_136 rfl rfl ?_
    refine z_aload_n C (i := 0) d_M_take_137 rfl rfl ?_
    refine z_getI C (ci := 8) (j := 22) (F := cf_M) (by decide) rfl rfl in_M (by decide) fl_M_121 rfl d_M_take_138 ?_
    refine z_putI C (ci := 8) (j := 23) (F := cf_M) ct_M (by decide) rfl rfl in_M ty_M nm_M (by decide) fl_M_212 rfl (by decide +kernel) rfl d_M_take_141 (fun h15 eh15 => ?_)
    replace hw := hw h15 eh15
    refine z_iconst C (v := 0) d_M_take_144 (by decide) ?_
    refine z_istore_n C (i := 3) d_M_take_145 rfl (by decide) rfl ?_
    refine z_le (lv2 := [some (.ref (E.2.2.1 39)), none, none, some (.int 0)]) (⟨rfl, ⟨rfl, trivial⟩⟩) ?_
    obtain ⟨n, hw⟩ := hw
    exact w_M_take_146 hG C hr n _ _ hw
  · replace hw := hw.2 q
    refine z_aload_n C (i := 0) d_M_take_131 rfl rfl ?_
    refine z_getI C (ci := 8) (j := 24) (F := cf_M) (by decide) rfl rfl in_M (by decide) fl_M_118 rfl d_M_take_132 ?_
    exact z_iret C hr d_M_take_135 hw
set_option maxRecDepth 100000 in
set_option maxHeartbeats 4000000 in
theorem w_M_take_52 {l : Launch} {E : zE} {G : (Nat → Prop) → State → Prop} {p : Program} {e : Env} {s : State} {m : MethodId} {args : Array Value} {below : List Frame} {meth : Method} {c : Code} {A : Nat → Prop} {post : Int32 → zH → Prop} (hG : xGG E G) (C : zCx p s m args meth c E G A 7 177 prog_10_method_32_code 4 cn_M) (hr : meth.sig.returnType = (some .int)) : ∀ (n : Nat) (l1 : Int32) (l2 : Int32) (h : zH), b_M_take_52 post n l1 l2 h → zGo p l e s m args below meth c E A 7 177 4 (zPi post) h 52 [some (.ref (E.2.2.1 39)), some (.int l1), some (.int l2), none] [] := by
  intro n
  induction n with
  | zero => intro l1 l2 h hw; exact False.elim hw
  | succ n hrc =>
    intro l1 l2 h hw
    unfold b_M_take_52 at hw
    refine z_iload_n C (i := 2) d_M_take_52 rfl rfl ?_
    refine z_if_ne C (tgt := 124) d_M_take_53 (by decide) (fun q => ?_) (fun q => ?_)
    · replace hw := hw.1 q
      refine z_le (lv2 := [some (.ref (E.2.2.1 39)), none, none, none]) (⟨rfl, trivial⟩) ?_
      exact w_M_take_124 hG C hr  _ hw
    · replace hw := hw.2 q
      refine z_aload_n C (i := 0) d_M_take_56 rfl rfl ?_
      refine z_getI C (ci := 8) (j := 24) (F := cf_M) (by decide) rfl rfl in_M (by decide) fl_M_118 rfl d_M_take_57 ?_
      refine z_if_ne C (tgt := 124) d_M_take_60 (by decide) (fun q => ?_) (fun q => ?_)
      · replace hw := hw.1 q
        refine z_le (lv2 := [some (.ref (E.2.2.1 39)), none, none, none]) (⟨rfl, trivial⟩) ?_
        exact w_M_take_124 hG C hr  _ hw
      · replace hw := hw.2 q
        refine z_aload_n C (i := 0) d_M_take_63 rfl rfl ?_
        refine z_callVv ⟨xN_ok, hG.1⟩ zT_good C (t_M_next hG hw) ol_M_193 (by decide) rfl rfl (by decide) (by decide) pl_M_next rfl rfl (Nat.le_of_ble_eq_true rfl) d_M_take_64 (fun h17 hw => ?_)
        refine z_iload_n C (i := 1) d_M_take_67 rfl rfl ?_
        refine z_if_eq C (tgt := 102) d_M_take_68 (by decide) (fun q => ?_) (fun q => ?_)
        · replace hw := hw.1 q
          refine z_aload_n C (i := 0) d_M_take_102 rfl rfl ?_
          refine z_getI C (ci := 8) (j := 8) (F := cf_M) (by decide) rfl rfl in_M (by decide) fl_M_103 rfl d_M_take_103 ?_
          refine z_iconst C (v := 1) d_M_take_106 (by decide) ?_
          refine z_icmp_ne C (tgt := 114) d_M_take_107 (by decide) (fun q => ?_) (fun q => ?_)
          · replace hw := hw.1 q
            refine z_iconst C (v := 0) d_M_take_114 (by decide) ?_
            refine z_le (lv2 := [some (.ref (E.2.2.1 39)), none, none, none]) (⟨rfl, trivial⟩) ?_
            exact w_M_take_115 hG C hr hrc _ _ hw
          · replace hw := hw.2 q
            refine z_iconst C (v := 1) d_M_take_110 (by decide) ?_
            refine z_goto C (tgt := 115) d_M_take_111 (by decide) ?_
            refine z_le (lv2 := [some (.ref (E.2.2.1 39)), none, none, none]) (⟨rfl, trivial⟩) ?_
            exact w_M_take_115 hG C hr hrc _ _ hw
        · replace hw := hw.2 q
          refine z_aload_n C (i := 0) d_M_take_71 rfl rfl ?_
          refine z_callVi ⟨xN_ok, hG.1⟩ zT_good C (t_M_begins hG hw) ol_M_205 (by decide) rfl rfl (by decide) (by decide) pl_M_begins rfl rfl (Nat.le_of_ble_eq_true rfl) d_M_take_72 (fun r18 h19 hw => ?_)
          refine z_if_ne C (tgt := 82) d_M_take_75 (by decide) (fun q => ?_) (fun q => ?_)
          · replace hw := hw.1 q
            refine z_iconst C (v := 0) d_M_take_82 (by decide) ?_
            refine z_le (lv2 := [some (.ref (E.2.2.1 39)), none, some (.int l2), none]) (⟨rfl, ⟨rfl, trivial⟩⟩) ?_
            exact w_M_take_83 hG C hr hrc _ _ _ hw
          · replace hw := hw.2 q
            refine z_iconst C (v := 1) d_M_take_78 (by decide) ?_
            refine z_goto C (tgt := 83) d_M_take_79 (by decide) ?_
            refine z_le (lv2 := [some (.ref (E.2.2.1 39)), none, some (.int l2), none]) (⟨rfl, ⟨rfl, trivial⟩⟩) ?_
            exact w_M_take_83 hG C hr hrc _ _ _ hw
set_option maxRecDepth 100000 in
set_option maxHeartbeats 4000000 in
theorem t_M_take {l : Launch} {E : zE} {G : (Nat → Prop) → State → Prop} (hG : xGG E G) {h : zH} {post : Int32 → zH → Prop} (hw : wp_M_take  h post) : Ct l xX E xcl xN zT G 7 177 y_M_take prog_10_method_32_code 4 (some .int) [.ref (E.2.2.1 39)] h (zPi post) := by
  unfold wp_M_take at hw
  refine Ct.of (by decide) (Nat.le_of_ble_eq_true rfl) ?_
  intro p e s m below meth c A C hr
  refine z_lv (lv2 := [some (.ref (E.2.2.1 39)), none, none, none]) rfl ?_
  refine z_aload_n C (i := 0) d_M_take_0 rfl rfl ?_
  refine z_iconst C (v := 0) d_M_take_1 (by decide) ?_
  refine z_putI C (ci := 8) (j := 0) (F := cf_M) ct_M (by decide) rfl rfl in_M ty_M nm_M (by decide) fl_M_68 rfl (by decide +kernel) rfl d_M_take_2 (fun h20 eh20 => ?_)
  replace hw := hw h20 eh20
  refine z_aload_n C (i := 0) d_M_take_5 rfl rfl ?_
  refine z_aload_n C (i := 0) d_M_take_6 rfl rfl ?_
  refine z_getI C (ci := 8) (j := 6) (F := cf_M) (by decide) rfl rfl in_M (by decide) fl_M_83 rfl d_M_take_7 ?_
  refine z_putI C (ci := 8) (j := 7) (F := cf_M) ct_M (by decide) rfl rfl in_M ty_M nm_M (by decide) fl_M_86 rfl (by decide +kernel) rfl d_M_take_10 (fun h21 eh21 => ?_)
  replace hw := hw h21 eh21
  refine z_aload_n C (i := 0) d_M_take_13 rfl rfl ?_
  refine z_iconst C (v := 0) d_M_take_14 (by decide) ?_
  refine z_putI C (ci := 8) (j := 6) (F := cf_M) ct_M (by decide) rfl rfl in_M ty_M nm_M (by decide) fl_M_83 rfl (by decide +kernel) rfl d_M_take_15 (fun h22 eh22 => ?_)
  replace hw := hw h22 eh22
  refine z_aload_n C (i := 0) d_M_take_18 rfl rfl ?_
  refine z_iconst C (v := 0) d_M_take_19 (by decide) ?_
  refine z_putI C (ci := 8) (j := 10) (F := cf_M) ct_M (by decide) rfl rfl in_M ty_M nm_M (by decide) fl_M_96 rfl (by decide +kernel) rfl d_M_take_20 (fun h23 eh23 => ?_)
  replace hw := hw h23 eh23
  refine z_aload_n C (i := 0) d_M_take_23 rfl rfl ?_
  refine z_iconst C (v := 0) d_M_take_24 (by decide) ?_
  refine z_putI C (ci := 8) (j := 22) (F := cf_M) ct_M (by decide) rfl rfl in_M ty_M nm_M (by decide) fl_M_121 rfl (by decide +kernel) rfl d_M_take_25 (fun h24 eh24 => ?_)
  replace hw := hw h24 eh24
  refine z_aload_n C (i := 0) d_M_take_28 rfl rfl ?_
  refine z_iconst C (v := 0) d_M_take_29 (by decide) ?_
  refine z_putI C (ci := 8) (j := 24) (F := cf_M) ct_M (by decide) rfl rfl in_M ty_M nm_M (by decide) fl_M_118 rfl (by decide +kernel) rfl d_M_take_30 (fun h25 eh25 => ?_)
  replace hw := hw h25 eh25
  refine z_aload_n C (i := 0) d_M_take_33 rfl rfl ?_
  refine z_iconst C (v := 0) d_M_take_34 (by decide) ?_
  refine z_putI C (ci := 8) (j := 28) (F := cf_M) ct_M (by decide) rfl rfl in_M ty_M nm_M (by decide) fl_M_128 rfl (by decide +kernel) rfl d_M_take_35 (fun h26 eh26 => ?_)
  replace hw := hw h26 eh26
  refine z_aload_n C (i := 0) d_M_take_38 rfl rfl ?_
  refine z_iconst C (v := 0) d_M_take_39 (by decide) ?_
  refine z_putI C (ci := 8) (j := 30) (F := cf_M) ct_M (by decide) rfl rfl in_M ty_M nm_M (by decide) fl_M_137 rfl (by decide +kernel) rfl d_M_take_40 (fun h27 eh27 => ?_)
  replace hw := hw h27 eh27
  refine z_aload_n C (i := 0) d_M_take_43 rfl rfl ?_
  refine z_iconst C (v := 0) d_M_take_44 (by decide) ?_
  refine z_putI C (ci := 8) (j := 31) (F := cf_M) ct_M (by decide) rfl rfl in_M ty_M nm_M (by decide) fl_M_131 rfl (by decide +kernel) rfl d_M_take_45 (fun h28 eh28 => ?_)
  replace hw := hw h28 eh28
  refine z_iconst C (v := 1) d_M_take_48 (by decide) ?_
  refine z_istore_n C (i := 1) d_M_take_49 rfl (by decide) rfl ?_
  refine z_iconst C (v := 0) d_M_take_50 (by decide) ?_
  refine z_istore_n C (i := 2) d_M_take_51 rfl (by decide) rfl ?_
  refine z_le (lv2 := [some (.ref (E.2.2.1 39)), some (.int 1), some (.int 0), none]) (⟨rfl, ⟨rfl, ⟨rfl, trivial⟩⟩⟩) ?_
  obtain ⟨n, hw⟩ := hw
  exact w_M_take_52 hG C hr n _ _ _ hw
