theorem d_K_readVariable_0 : decode prog_7_method_6_code 0 = .ok (.aload_n 0, 1) := by decide +kernel
theorem d_K_readVariable_1 : decode prog_7_method_6_code 1 = .ok (.getfield 24, 3) := by decide +kernel
theorem d_K_readVariable_4 : decode prog_7_method_6_code 4 = .ok (.aload_n 0, 1) := by decide +kernel
theorem d_K_readVariable_5 : decode prog_7_method_6_code 5 = .ok (.getfield 9, 3) := by decide +kernel
theorem d_K_readVariable_8 : decode prog_7_method_6_code 8 = .ok (.iconst 1, 1) := by decide +kernel
theorem d_K_readVariable_9 : decode prog_7_method_6_code 9 = .ok (.iadd, 1) := by decide +kernel
theorem d_K_readVariable_10 : decode prog_7_method_6_code 10 = .ok (.invokevirtual 31, 3) := by decide +kernel
theorem d_K_readVariable_13 : decode prog_7_method_6_code 13 = .ok (.istore_n 1, 1) := by decide +kernel
theorem d_K_readVariable_14 : decode prog_7_method_6_code 14 = .ok (.aload_n 0, 1) := by decide +kernel
theorem d_K_readVariable_15 : decode prog_7_method_6_code 15 = .ok (.getfield 24, 3) := by decide +kernel
theorem d_K_readVariable_18 : decode prog_7_method_6_code 18 = .ok (.aload_n 0, 1) := by decide +kernel
theorem d_K_readVariable_19 : decode prog_7_method_6_code 19 = .ok (.getfield 9, 3) := by decide +kernel
theorem d_K_readVariable_22 : decode prog_7_method_6_code 22 = .ok (.iconst 2, 1) := by decide +kernel
theorem d_K_readVariable_23 : decode prog_7_method_6_code 23 = .ok (.iadd, 1) := by decide +kernel
theorem d_K_readVariable_24 : decode prog_7_method_6_code 24 = .ok (.invokevirtual 31, 3) := by decide +kernel
theorem d_K_readVariable_27 : decode prog_7_method_6_code 27 = .ok (.istore_n 2, 1) := by decide +kernel
theorem d_K_readVariable_28 : decode prog_7_method_6_code 28 = .ok (.iload_n 1, 1) := by decide +kernel
theorem d_K_readVariable_29 : decode prog_7_method_6_code 29 = .ok (.invokestatic 37, 3) := by decide +kernel
theorem d_K_readVariable_32 : decode prog_7_method_6_code 32 = .ok (.ifCond .ne (9), 3) := by decide +kernel
theorem d_K_readVariable_35 : decode prog_7_method_6_code 35 = .ok (.aload_n 0, 1) := by decide +kernel
theorem d_K_readVariable_36 : decode prog_7_method_6_code 36 = .ok (.iconst 0, 1) := by decide +kernel
theorem d_K_readVariable_37 : decode prog_7_method_6_code 37 = .ok (.putfield 15, 3) := by decide +kernel
theorem d_K_readVariable_40 : decode prog_7_method_6_code 40 = .ok (.return_, 1) := by decide +kernel
theorem d_K_readVariable_41 : decode prog_7_method_6_code 41 = .ok (.aload_n 0, 1) := by decide +kernel
theorem d_K_readVariable_42 : decode prog_7_method_6_code 42 = .ok (.iconst 3, 1) := by decide +kernel
theorem d_K_readVariable_43 : decode prog_7_method_6_code 43 = .ok (.putfield 15, 3) := by decide +kernel
theorem d_K_readVariable_46 : decode prog_7_method_6_code 46 = .ok (.aload_n 0, 1) := by decide +kernel
theorem d_K_readVariable_47 : decode prog_7_method_6_code 47 = .ok (.iload_n 1, 1) := by decide +kernel
theorem d_K_readVariable_48 : decode prog_7_method_6_code 48 = .ok (.bipush (48), 2) := by decide +kernel
theorem d_K_readVariable_50 : decode prog_7_method_6_code 50 = .ok (.isub, 1) := by decide +kernel
theorem d_K_readVariable_51 : decode prog_7_method_6_code 51 = .ok (.putfield 21, 3) := by decide +kernel
theorem d_K_readVariable_54 : decode prog_7_method_6_code 54 = .ok (.aload_n 0, 1) := by decide +kernel
theorem d_K_readVariable_55 : decode prog_7_method_6_code 55 = .ok (.dup, 1) := by decide +kernel
theorem d_K_readVariable_56 : decode prog_7_method_6_code 56 = .ok (.getfield 9, 3) := by decide +kernel
theorem d_K_readVariable_59 : decode prog_7_method_6_code 59 = .ok (.iconst 2, 1) := by decide +kernel
theorem d_K_readVariable_60 : decode prog_7_method_6_code 60 = .ok (.iadd, 1) := by decide +kernel
theorem d_K_readVariable_61 : decode prog_7_method_6_code 61 = .ok (.putfield 9, 3) := by decide +kernel
theorem d_K_readVariable_64 : decode prog_7_method_6_code 64 = .ok (.iload_n 2, 1) := by decide +kernel
theorem d_K_readVariable_65 : decode prog_7_method_6_code 65 = .ok (.invokestatic 37, 3) := by decide +kernel
theorem d_K_readVariable_68 : decode prog_7_method_6_code 68 = .ok (.ifCond .eq (29), 3) := by decide +kernel
theorem d_K_readVariable_71 : decode prog_7_method_6_code 71 = .ok (.aload_n 0, 1) := by decide +kernel
theorem d_K_readVariable_72 : decode prog_7_method_6_code 72 = .ok (.aload_n 0, 1) := by decide +kernel
theorem d_K_readVariable_73 : decode prog_7_method_6_code 73 = .ok (.getfield 21, 3) := by decide +kernel
theorem d_K_readVariable_76 : decode prog_7_method_6_code 76 = .ok (.bipush (10), 2) := by decide +kernel
theorem d_K_readVariable_78 : decode prog_7_method_6_code 78 = .ok (.imul, 1) := by decide +kernel
theorem d_K_readVariable_79 : decode prog_7_method_6_code 79 = .ok (.iload_n 2, 1) := by decide +kernel
theorem d_K_readVariable_80 : decode prog_7_method_6_code 80 = .ok (.bipush (48), 2) := by decide +kernel
theorem d_K_readVariable_82 : decode prog_7_method_6_code 82 = .ok (.isub, 1) := by decide +kernel
theorem d_K_readVariable_83 : decode prog_7_method_6_code 83 = .ok (.iadd, 1) := by decide +kernel
theorem d_K_readVariable_84 : decode prog_7_method_6_code 84 = .ok (.putfield 21, 3) := by decide +kernel
theorem d_K_readVariable_87 : decode prog_7_method_6_code 87 = .ok (.aload_n 0, 1) := by decide +kernel
theorem d_K_readVariable_88 : decode prog_7_method_6_code 88 = .ok (.dup, 1) := by decide +kernel
theorem d_K_readVariable_89 : decode prog_7_method_6_code 89 = .ok (.getfield 9, 3) := by decide +kernel
theorem d_K_readVariable_92 : decode prog_7_method_6_code 92 = .ok (.iconst 1, 1) := by decide +kernel
theorem d_K_readVariable_93 : decode prog_7_method_6_code 93 = .ok (.iadd, 1) := by decide +kernel
theorem d_K_readVariable_94 : decode prog_7_method_6_code 94 = .ok (.putfield 9, 3) := by decide +kernel
theorem d_K_readVariable_97 : decode prog_7_method_6_code 97 = .ok (.return_, 1) := by decide +kernel
def b_K_readVariable_97 (post : zH → Prop) (h : zH) : Prop := post h
def wp_K_readVariable (h : zH) (post : zH → Prop) : Prop := wp_A_signAt (((h.1 30 1) + 1)) h (fun (r1 : Int32) (h2 : zH) => wp_A_signAt (((h2.1 30 1) + 2)) h2 (fun (r3 : Int32) (h4 : zH) => wp_R_isDigit (r1) h4 (fun (r5 : Int32) (h6 : zH) => ((¬ r5 = 0 → (∀ h7 : zH, h7 = zi h6 30 2 3 → (∀ h8 : zH, h8 = zi h7 30 4 (r1 - 48) → (∀ h9 : zH, h9 = zi h8 30 1 ((h8.1 30 1) + 2) → wp_R_isDigit (r3) h9 (fun (r10 : Int32) (h11 : zH) => ((r10 = 0 → b_K_readVariable_97 post  h11) ∧ (¬ r10 = 0 → (∀ h12 : zH, h12 = zi h11 30 4 (((h11.1 30 4) * 10) + (r3 - 48)) → (∀ h13 : zH, h13 = zi h12 30 1 ((h12.1 30 1) + 1) → b_K_readVariable_97 post  h13))))))))) ∧ (r5 = 0 → (∀ h14 : zH, h14 = zi h6 30 2 0 → post h14))))))
set_option maxRecDepth 100000 in
set_option maxHeartbeats 4000000 in
theorem w_K_readVariable_97 {l : Launch} {E : zE} {G : (Nat → Prop) → State → Prop} {p : Program} {e : Env} {s : State} {m : MethodId} {args : Array Value} {below : List Frame} {meth : Method} {c : Code} {A : Nat → Prop} {post : zH → Prop} (hG : xGG E G) (C : zCx p s m args meth c E G A 2 42 prog_7_method_6_code 3 cn_K) (hr : meth.sig.returnType = none)  (h : zH) (hw : b_K_readVariable_97 post  h) : zGo p l e s m args below meth c E A 2 42 3 (zPv post) h 97 [none, none, none] [] := by
  unfold b_K_readVariable_97 at hw
  exact z_vret C hr d_K_readVariable_97 hw
set_option maxRecDepth 100000 in
set_option maxHeartbeats 4000000 in
theorem t_K_readVariable {l : Launch} {E : zE} {G : (Nat → Prop) → State → Prop} (hG : xGG E G) {h : zH} {post : zH → Prop} (hw : wp_K_readVariable  h post) : Ct l xX E xcl xN zT G 2 42 y_K_readVariable prog_7_method_6_code 3 none [.ref (E.2.2.1 30)] h (zPv post) := by
  unfold wp_K_readVariable at hw
  refine Ct.of (by decide) (Nat.le_of_ble_eq_true rfl) ?_
  intro p e s m below meth c A C hr
  refine z_lv (lv2 := [some (.ref (E.2.2.1 30)), none, none]) rfl ?_
  refine z_aload_n C (i := 0) d_K_readVariable_0 rfl rfl ?_
  refine z_getS C (ci := 5) (j := 0) (F := cf_K) (by decide) rfl rfl in_K (by decide) fl_K_24 rfl d_K_readVariable_1 ?_
  refine z_aload_n C (i := 0) d_K_readVariable_4 rfl rfl ?_
  refine z_getI C (ci := 5) (j := 1) (F := cf_K) (by decide) rfl rfl in_K (by decide) fl_K_9 rfl d_K_readVariable_5 ?_
  refine z_iconst C (v := 1) d_K_readVariable_8 (by decide) ?_
  refine z_iadd C d_K_readVariable_9 ?_
  refine z_callVNi ⟨xN_ok, hG.1⟩ zT_good C (t_A_signAt hG hw) wn_A_signAt nl_K_31 (by decide) rfl rfl (by decide) (by decide) pl_A_signAt rfl rfl (Nat.le_of_ble_eq_true rfl) d_K_readVariable_10 (fun r1 h2 hw => ?_)
  refine z_istore_n C (i := 1) d_K_readVariable_13 rfl (by decide) rfl ?_
  refine z_aload_n C (i := 0) d_K_readVariable_14 rfl rfl ?_
  refine z_getS C (ci := 5) (j := 0) (F := cf_K) (by decide) rfl rfl in_K (by decide) fl_K_24 rfl d_K_readVariable_15 ?_
  refine z_aload_n C (i := 0) d_K_readVariable_18 rfl rfl ?_
  refine z_getI C (ci := 5) (j := 1) (F := cf_K) (by decide) rfl rfl in_K (by decide) fl_K_9 rfl d_K_readVariable_19 ?_
  refine z_iconst C (v := 2) d_K_readVariable_22 (by decide) ?_
  refine z_iadd C d_K_readVariable_23 ?_
  refine z_callVNi ⟨xN_ok, hG.1⟩ zT_good C (t_A_signAt hG hw) wn_A_signAt nl_K_31 (by decide) rfl rfl (by decide) (by decide) pl_A_signAt rfl rfl (Nat.le_of_ble_eq_true rfl) d_K_readVariable_24 (fun r3 h4 hw => ?_)
  refine z_istore_n C (i := 2) d_K_readVariable_27 rfl (by decide) rfl ?_
  refine z_iload_n C (i := 1) d_K_readVariable_28 rfl rfl ?_
  refine z_callSNi ⟨xN_ok, hG.1⟩ zT_good C (t_R_isDigit hG hw) wn_R_isDigit nl_K_37 (by decide) (by decide) pl_R_isDigit rfl rfl (Nat.le_of_ble_eq_true rfl) d_K_readVariable_29 (fun r5 h6 hw => ?_)
  refine z_if_ne C (tgt := 41) d_K_readVariable_32 (by decide) (fun q => ?_) (fun q => ?_)
  · replace hw := hw.1 q
    refine z_aload_n C (i := 0) d_K_readVariable_41 rfl rfl ?_
    refine z_iconst C (v := 3) d_K_readVariable_42 (by decide) ?_
    refine z_putI C (ci := 5) (j := 2) (F := cf_K) ct_K (by decide) rfl rfl in_K ty_K nm_K (by decide) fl_K_15 rfl (by decide +kernel) rfl d_K_readVariable_43 (fun h7 eh7 => ?_)
    replace hw := hw h7 eh7
    refine z_aload_n C (i := 0) d_K_readVariable_46 rfl rfl ?_
    refine z_iload_n C (i := 1) d_K_readVariable_47 rfl rfl ?_
    refine z_bipush C (v := 48) d_K_readVariable_48 (by decide) ?_
    refine z_isub C d_K_readVariable_50 ?_
    refine z_putI C (ci := 5) (j := 4) (F := cf_K) ct_K (by decide) rfl rfl in_K ty_K nm_K (by decide) fl_K_21 rfl (by decide +kernel) rfl d_K_readVariable_51 (fun h8 eh8 => ?_)
    replace hw := hw h8 eh8
    refine z_aload_n C (i := 0) d_K_readVariable_54 rfl rfl ?_
    refine z_dup C d_K_readVariable_55 rfl ?_
    refine z_getI C (ci := 5) (j := 1) (F := cf_K) (by decide) rfl rfl in_K (by decide) fl_K_9 rfl d_K_readVariable_56 ?_
    refine z_iconst C (v := 2) d_K_readVariable_59 (by decide) ?_
    refine z_iadd C d_K_readVariable_60 ?_
    refine z_putI C (ci := 5) (j := 1) (F := cf_K) ct_K (by decide) rfl rfl in_K ty_K nm_K (by decide) fl_K_9 rfl (by decide +kernel) rfl d_K_readVariable_61 (fun h9 eh9 => ?_)
    replace hw := hw h9 eh9
    refine z_iload_n C (i := 2) d_K_readVariable_64 rfl rfl ?_
    refine z_callSNi ⟨xN_ok, hG.1⟩ zT_good C (t_R_isDigit hG hw) wn_R_isDigit nl_K_37 (by decide) (by decide) pl_R_isDigit rfl rfl (Nat.le_of_ble_eq_true rfl) d_K_readVariable_65 (fun r10 h11 hw => ?_)
    refine z_if_eq C (tgt := 97) d_K_readVariable_68 (by decide) (fun q => ?_) (fun q => ?_)
    · replace hw := hw.1 q
      refine z_le (lv2 := [none, none, none]) (trivial) ?_
      exact w_K_readVariable_97 hG C hr  _ hw
    · replace hw := hw.2 q
      refine z_aload_n C (i := 0) d_K_readVariable_71 rfl rfl ?_
      refine z_aload_n C (i := 0) d_K_readVariable_72 rfl rfl ?_
      refine z_getI C (ci := 5) (j := 4) (F := cf_K) (by decide) rfl rfl in_K (by decide) fl_K_21 rfl d_K_readVariable_73 ?_
      refine z_bipush C (v := 10) d_K_readVariable_76 (by decide) ?_
      refine z_imul C d_K_readVariable_78 ?_
      refine z_iload_n C (i := 2) d_K_readVariable_79 rfl rfl ?_
      refine z_bipush C (v := 48) d_K_readVariable_80 (by decide) ?_
      refine z_isub C d_K_readVariable_82 ?_
      refine z_iadd C d_K_readVariable_83 ?_
      refine z_putI C (ci := 5) (j := 4) (F := cf_K) ct_K (by decide) rfl rfl in_K ty_K nm_K (by decide) fl_K_21 rfl (by decide +kernel) rfl d_K_readVariable_84 (fun h12 eh12 => ?_)
      replace hw := hw h12 eh12
      refine z_aload_n C (i := 0) d_K_readVariable_87 rfl rfl ?_
      refine z_dup C d_K_readVariable_88 rfl ?_
      refine z_getI C (ci := 5) (j := 1) (F := cf_K) (by decide) rfl rfl in_K (by decide) fl_K_9 rfl d_K_readVariable_89 ?_
      refine z_iconst C (v := 1) d_K_readVariable_92 (by decide) ?_
      refine z_iadd C d_K_readVariable_93 ?_
      refine z_putI C (ci := 5) (j := 1) (F := cf_K) ct_K (by decide) rfl rfl in_K ty_K nm_K (by decide) fl_K_9 rfl (by decide +kernel) rfl d_K_readVariable_94 (fun h13 eh13 => ?_)
      replace hw := hw h13 eh13
      refine z_le (lv2 := [none, none, none]) (trivial) ?_
      exact w_K_readVariable_97 hG C hr  _ hw
  · replace hw := hw.2 q
    refine z_aload_n C (i := 0) d_K_readVariable_35 rfl rfl ?_
    refine z_iconst C (v := 0) d_K_readVariable_36 (by decide) ?_
    refine z_putI C (ci := 5) (j := 2) (F := cf_K) ct_K (by decide) rfl rfl in_K ty_K nm_K (by decide) fl_K_15 rfl (by decide +kernel) rfl d_K_readVariable_37 (fun h14 eh14 => ?_)
    replace hw := hw h14 eh14
    exact z_vret C hr d_K_readVariable_40 hw
theorem d_K_readWord_0 : decode prog_7_method_7_code 0 = .ok (.aload_n 0, 1) := by decide +kernel
theorem d_K_readWord_1 : decode prog_7_method_7_code 1 = .ok (.getfield 24, 3) := by decide +kernel
theorem d_K_readWord_4 : decode prog_7_method_7_code 4 = .ok (.aload_n 0, 1) := by decide +kernel
theorem d_K_readWord_5 : decode prog_7_method_7_code 5 = .ok (.getfield 9, 3) := by decide +kernel
theorem d_K_readWord_8 : decode prog_7_method_7_code 8 = .ok (.ldc 60, 2) := by decide +kernel
theorem d_K_readWord_10 : decode prog_7_method_7_code 10 = .ok (.invokevirtual 62, 3) := by decide +kernel
theorem d_K_readWord_13 : decode prog_7_method_7_code 13 = .ok (.ifCond .eq (12), 3) := by decide +kernel
theorem d_K_readWord_16 : decode prog_7_method_7_code 16 = .ok (.aload_n 0, 1) := by decide +kernel
theorem d_K_readWord_17 : decode prog_7_method_7_code 17 = .ok (.bipush (23), 2) := by decide +kernel
theorem d_K_readWord_19 : decode prog_7_method_7_code 19 = .ok (.putfield 15, 3) := by decide +kernel
theorem d_K_readWord_22 : decode prog_7_method_7_code 22 = .ok (.goto (58), 3) := by decide +kernel
theorem d_K_readWord_25 : decode prog_7_method_7_code 25 = .ok (.aload_n 0, 1) := by decide +kernel
theorem d_K_readWord_26 : decode prog_7_method_7_code 26 = .ok (.getfield 24, 3) := by decide +kernel
theorem d_K_readWord_29 : decode prog_7_method_7_code 29 = .ok (.aload_n 0, 1) := by decide +kernel
theorem d_K_readWord_30 : decode prog_7_method_7_code 30 = .ok (.getfield 9, 3) := by decide +kernel
theorem d_K_readWord_33 : decode prog_7_method_7_code 33 = .ok (.ldc 66, 2) := by decide +kernel
theorem d_K_readWord_35 : decode prog_7_method_7_code 35 = .ok (.invokevirtual 62, 3) := by decide +kernel
theorem d_K_readWord_38 : decode prog_7_method_7_code 38 = .ok (.ifCond .eq (12), 3) := by decide +kernel
theorem d_K_readWord_41 : decode prog_7_method_7_code 41 = .ok (.aload_n 0, 1) := by decide +kernel
theorem d_K_readWord_42 : decode prog_7_method_7_code 42 = .ok (.bipush (24), 2) := by decide +kernel
theorem d_K_readWord_44 : decode prog_7_method_7_code 44 = .ok (.putfield 15, 3) := by decide +kernel
theorem d_K_readWord_47 : decode prog_7_method_7_code 47 = .ok (.goto (33), 3) := by decide +kernel
theorem d_K_readWord_50 : decode prog_7_method_7_code 50 = .ok (.aload_n 0, 1) := by decide +kernel
theorem d_K_readWord_51 : decode prog_7_method_7_code 51 = .ok (.getfield 24, 3) := by decide +kernel
theorem d_K_readWord_54 : decode prog_7_method_7_code 54 = .ok (.aload_n 0, 1) := by decide +kernel
theorem d_K_readWord_55 : decode prog_7_method_7_code 55 = .ok (.getfield 9, 3) := by decide +kernel
theorem d_K_readWord_58 : decode prog_7_method_7_code 58 = .ok (.ldc 68, 2) := by decide +kernel
theorem d_K_readWord_60 : decode prog_7_method_7_code 60 = .ok (.invokevirtual 62, 3) := by decide +kernel
theorem d_K_readWord_63 : decode prog_7_method_7_code 63 = .ok (.ifCond .eq (12), 3) := by decide +kernel
theorem d_K_readWord_66 : decode prog_7_method_7_code 66 = .ok (.aload_n 0, 1) := by decide +kernel
theorem d_K_readWord_67 : decode prog_7_method_7_code 67 = .ok (.bipush (25), 2) := by decide +kernel
theorem d_K_readWord_69 : decode prog_7_method_7_code 69 = .ok (.putfield 15, 3) := by decide +kernel
theorem d_K_readWord_72 : decode prog_7_method_7_code 72 = .ok (.goto (8), 3) := by decide +kernel
theorem d_K_readWord_75 : decode prog_7_method_7_code 75 = .ok (.aload_n 0, 1) := by decide +kernel
theorem d_K_readWord_76 : decode prog_7_method_7_code 76 = .ok (.iconst 0, 1) := by decide +kernel
theorem d_K_readWord_77 : decode prog_7_method_7_code 77 = .ok (.putfield 15, 3) := by decide +kernel
theorem d_K_readWord_80 : decode prog_7_method_7_code 80 = .ok (.aload_n 0, 1) := by decide +kernel
theorem d_K_readWord_81 : decode prog_7_method_7_code 81 = .ok (.dup, 1) := by decide +kernel
theorem d_K_readWord_82 : decode prog_7_method_7_code 82 = .ok (.getfield 9, 3) := by decide +kernel
theorem d_K_readWord_85 : decode prog_7_method_7_code 85 = .ok (.iconst 3, 1) := by decide +kernel
theorem d_K_readWord_86 : decode prog_7_method_7_code 86 = .ok (.iadd, 1) := by decide +kernel
theorem d_K_readWord_87 : decode prog_7_method_7_code 87 = .ok (.putfield 9, 3) := by decide +kernel
theorem d_K_readWord_90 : decode prog_7_method_7_code 90 = .ok (.return_, 1) := by decide +kernel
def b_K_readWord_80 (post : zH → Prop) (h : zH) : Prop := (∀ h1 : zH, h1 = zi h 30 1 ((h.1 30 1) + 3) → post h1)
def wp_K_readWord (h : zH) (post : zH → Prop) : Prop := wp_A_spells ((h.1 30 1)) 0 h (fun (r2 : Int32) (h3 : zH) => ((r2 = 0 → wp_A_spells ((h3.1 30 1)) 1 h3 (fun (r4 : Int32) (h5 : zH) => ((r4 = 0 → wp_A_spells ((h5.1 30 1)) 2 h5 (fun (r6 : Int32) (h7 : zH) => ((r6 = 0 → (∀ h8 : zH, h8 = zi h7 30 2 0 → b_K_readWord_80 post  h8)) ∧ (¬ r6 = 0 → (∀ h9 : zH, h9 = zi h7 30 2 25 → b_K_readWord_80 post  h9))))) ∧ (¬ r4 = 0 → (∀ h10 : zH, h10 = zi h5 30 2 24 → b_K_readWord_80 post  h10))))) ∧ (¬ r2 = 0 → (∀ h11 : zH, h11 = zi h3 30 2 23 → b_K_readWord_80 post  h11))))
set_option maxRecDepth 100000 in
set_option maxHeartbeats 4000000 in
theorem w_K_readWord_80 {l : Launch} {E : zE} {G : (Nat → Prop) → State → Prop} {p : Program} {e : Env} {s : State} {m : MethodId} {args : Array Value} {below : List Frame} {meth : Method} {c : Code} {A : Nat → Prop} {post : zH → Prop} (hG : xGG E G) (C : zCx p s m args meth c E G A 5 113 prog_7_method_7_code 1 cn_K) (hr : meth.sig.returnType = none)  (h : zH) (hw : b_K_readWord_80 post  h) : zGo p l e s m args below meth c E A 5 113 1 (zPv post) h 80 [some (.ref (E.2.2.1 30))] [] := by
  unfold b_K_readWord_80 at hw
  refine z_aload_n C (i := 0) d_K_readWord_80 rfl rfl ?_
  refine z_dup C d_K_readWord_81 rfl ?_
  refine z_getI C (ci := 5) (j := 1) (F := cf_K) (by decide) rfl rfl in_K (by decide) fl_K_9 rfl d_K_readWord_82 ?_
  refine z_iconst C (v := 3) d_K_readWord_85 (by decide) ?_
  refine z_iadd C d_K_readWord_86 ?_
  refine z_putI C (ci := 5) (j := 1) (F := cf_K) ct_K (by decide) rfl rfl in_K ty_K nm_K (by decide) fl_K_9 rfl (by decide +kernel) rfl d_K_readWord_87 (fun h1 eh1 => ?_)
  replace hw := hw h1 eh1
  exact z_vret C hr d_K_readWord_90 hw
set_option maxRecDepth 100000 in
set_option maxHeartbeats 4000000 in
theorem t_K_readWord {l : Launch} {E : zE} {G : (Nat → Prop) → State → Prop} (hG : xGG E G) {h : zH} {post : zH → Prop} (hw : wp_K_readWord  h post) : Ct l xX E xcl xN zT G 5 113 y_K_readWord prog_7_method_7_code 1 none [.ref (E.2.2.1 30)] h (zPv post) := by
  unfold wp_K_readWord at hw
  refine Ct.of (by decide) (Nat.le_of_ble_eq_true rfl) ?_
  intro p e s m below meth c A C hr
  refine z_lv (lv2 := [some (.ref (E.2.2.1 30))]) rfl ?_
  refine z_aload_n C (i := 0) d_K_readWord_0 rfl rfl ?_
  refine z_getS C (ci := 5) (j := 0) (F := cf_K) (by decide) rfl rfl in_K (by decide) fl_K_24 rfl d_K_readWord_1 ?_
  refine z_aload_n C (i := 0) d_K_readWord_4 rfl rfl ?_
  refine z_getI C (ci := 5) (j := 1) (F := cf_K) (by decide) rfl rfl in_K (by decide) fl_K_9 rfl d_K_readWord_5 ?_
  refine z_ldcS C (hG.2 A s C.2.2.2.2.2.2).2.1 d_K_readWord_8 ?_
  refine z_callVNi ⟨xN_ok, hG.1⟩ zT_good C (t_A_spells hG hw) wn_A_spells nl_K_62 (by decide) rfl rfl (by decide) (by decide) pl_A_spells rfl rfl (Nat.le_of_ble_eq_true rfl) d_K_readWord_10 (fun r2 h3 hw => ?_)
  refine z_if_eq C (tgt := 25) d_K_readWord_13 (by decide) (fun q => ?_) (fun q => ?_)
  · replace hw := hw.1 q
    refine z_aload_n C (i := 0) d_K_readWord_25 rfl rfl ?_
    refine z_getS C (ci := 5) (j := 0) (F := cf_K) (by decide) rfl rfl in_K (by decide) fl_K_24 rfl d_K_readWord_26 ?_
    refine z_aload_n C (i := 0) d_K_readWord_29 rfl rfl ?_
    refine z_getI C (ci := 5) (j := 1) (F := cf_K) (by decide) rfl rfl in_K (by decide) fl_K_9 rfl d_K_readWord_30 ?_
    refine z_ldcS C (hG.2 A s C.2.2.2.2.2.2).2.2.1 d_K_readWord_33 ?_
    refine z_callVNi ⟨xN_ok, hG.1⟩ zT_good C (t_A_spells hG hw) wn_A_spells nl_K_62 (by decide) rfl rfl (by decide) (by decide) pl_A_spells rfl rfl (Nat.le_of_ble_eq_true rfl) d_K_readWord_35 (fun r4 h5 hw => ?_)
    refine z_if_eq C (tgt := 50) d_K_readWord_38 (by decide) (fun q => ?_) (fun q => ?_)
    · replace hw := hw.1 q
      refine z_aload_n C (i := 0) d_K_readWord_50 rfl rfl ?_
      refine z_getS C (ci := 5) (j := 0) (F := cf_K) (by decide) rfl rfl in_K (by decide) fl_K_24 rfl d_K_readWord_51 ?_
      refine z_aload_n C (i := 0) d_K_readWord_54 rfl rfl ?_
      refine z_getI C (ci := 5) (j := 1) (F := cf_K) (by decide) rfl rfl in_K (by decide) fl_K_9 rfl d_K_readWord_55 ?_
      refine z_ldcS C (hG.2 A s C.2.2.2.2.2.2).2.2.2.1 d_K_readWord_58 ?_
      refine z_callVNi ⟨xN_ok, hG.1⟩ zT_good C (t_A_spells hG hw) wn_A_spells nl_K_62 (by decide) rfl rfl (by decide) (by decide) pl_A_spells rfl rfl (Nat.le_of_ble_eq_true rfl) d_K_readWord_60 (fun r6 h7 hw => ?_)
      refine z_if_eq C (tgt := 75) d_K_readWord_63 (by decide) (fun q => ?_) (fun q => ?_)
      · replace hw := hw.1 q
        refine z_aload_n C (i := 0) d_K_readWord_75 rfl rfl ?_
        refine z_iconst C (v := 0) d_K_readWord_76 (by decide) ?_
        refine z_putI C (ci := 5) (j := 2) (F := cf_K) ct_K (by decide) rfl rfl in_K ty_K nm_K (by decide) fl_K_15 rfl (by decide +kernel) rfl d_K_readWord_77 (fun h8 eh8 => ?_)
        replace hw := hw h8 eh8
        refine z_le (lv2 := [some (.ref (E.2.2.1 30))]) (⟨rfl, trivial⟩) ?_
        exact w_K_readWord_80 hG C hr  _ hw
      · replace hw := hw.2 q
        refine z_aload_n C (i := 0) d_K_readWord_66 rfl rfl ?_
        refine z_bipush C (v := 25) d_K_readWord_67 (by decide) ?_
        refine z_putI C (ci := 5) (j := 2) (F := cf_K) ct_K (by decide) rfl rfl in_K ty_K nm_K (by decide) fl_K_15 rfl (by decide +kernel) rfl d_K_readWord_69 (fun h9 eh9 => ?_)
        replace hw := hw h9 eh9
        refine z_goto C (tgt := 80) d_K_readWord_72 (by decide) ?_
        refine z_le (lv2 := [some (.ref (E.2.2.1 30))]) (⟨rfl, trivial⟩) ?_
        exact w_K_readWord_80 hG C hr  _ hw
    · replace hw := hw.2 q
      refine z_aload_n C (i := 0) d_K_readWord_41 rfl rfl ?_
      refine z_bipush C (v := 24) d_K_readWord_42 (by decide) ?_
      refine z_putI C (ci := 5) (j := 2) (F := cf_K) ct_K (by decide) rfl rfl in_K ty_K nm_K (by decide) fl_K_15 rfl (by decide +kernel) rfl d_K_readWord_44 (fun h10 eh10 => ?_)
      replace hw := hw h10 eh10
      refine z_goto C (tgt := 80) d_K_readWord_47 (by decide) ?_
      refine z_le (lv2 := [some (.ref (E.2.2.1 30))]) (⟨rfl, trivial⟩) ?_
      exact w_K_readWord_80 hG C hr  _ hw
  · replace hw := hw.2 q
    refine z_aload_n C (i := 0) d_K_readWord_16 rfl rfl ?_
    refine z_bipush C (v := 23) d_K_readWord_17 (by decide) ?_
    refine z_putI C (ci := 5) (j := 2) (F := cf_K) ct_K (by decide) rfl rfl in_K ty_K nm_K (by decide) fl_K_15 rfl (by decide +kernel) rfl d_K_readWord_19 (fun h11 eh11 => ?_)
    replace hw := hw h11 eh11
    refine z_goto C (tgt := 80) d_K_readWord_22 (by decide) ?_
    refine z_le (lv2 := [some (.ref (E.2.2.1 30))]) (⟨rfl, trivial⟩) ?_
    exact w_K_readWord_80 hG C hr  _ hw
theorem d_K_skipSpaces_0 : decode prog_7_method_4_code 0 = .ok (.aload_n 0, 1) := by decide +kernel
theorem d_K_skipSpaces_1 : decode prog_7_method_4_code 1 = .ok (.getfield 9, 3) := by decide +kernel
theorem d_K_skipSpaces_4 : decode prog_7_method_4_code 4 = .ok (.aload_n 0, 1) := by decide +kernel
theorem d_K_skipSpaces_5 : decode prog_7_method_4_code 5 = .ok (.getfield 24, 3) := by decide +kernel
theorem d_K_skipSpaces_8 : decode prog_7_method_4_code 8 = .ok (.getfield 53, 3) := by decide +kernel
theorem d_K_skipSpaces_11 : decode prog_7_method_4_code 11 = .ok (.if_icmp .ge (32), 3) := by decide +kernel
theorem d_K_skipSpaces_14 : decode prog_7_method_4_code 14 = .ok (.aload_n 0, 1) := by decide +kernel
theorem d_K_skipSpaces_15 : decode prog_7_method_4_code 15 = .ok (.getfield 24, 3) := by decide +kernel
theorem d_K_skipSpaces_18 : decode prog_7_method_4_code 18 = .ok (.aload_n 0, 1) := by decide +kernel
theorem d_K_skipSpaces_19 : decode prog_7_method_4_code 19 = .ok (.getfield 9, 3) := by decide +kernel
theorem d_K_skipSpaces_22 : decode prog_7_method_4_code 22 = .ok (.invokevirtual 31, 3) := by decide +kernel
theorem d_K_skipSpaces_25 : decode prog_7_method_4_code 25 = .ok (.bipush (32), 2) := by decide +kernel
theorem d_K_skipSpaces_27 : decode prog_7_method_4_code 27 = .ok (.if_icmp .ne (16), 3) := by decide +kernel
theorem d_K_skipSpaces_30 : decode prog_7_method_4_code 30 = .ok (.aload_n 0, 1) := by decide +kernel
theorem d_K_skipSpaces_31 : decode prog_7_method_4_code 31 = .ok (.dup, 1) := by decide +kernel
theorem d_K_skipSpaces_32 : decode prog_7_method_4_code 32 = .ok (.getfield 9, 3) := by decide +kernel
theorem d_K_skipSpaces_35 : decode prog_7_method_4_code 35 = .ok (.iconst 1, 1) := by decide +kernel
theorem d_K_skipSpaces_36 : decode prog_7_method_4_code 36 = .ok (.iadd, 1) := by decide +kernel
theorem d_K_skipSpaces_37 : decode prog_7_method_4_code 37 = .ok (.putfield 9, 3) := by decide +kernel
theorem d_K_skipSpaces_40 : decode prog_7_method_4_code 40 = .ok (.goto (-40), 3) := by decide +kernel
theorem d_K_skipSpaces_43 : decode prog_7_method_4_code 43 = .ok (.return_, 1) := by decide +kernel
def b_K_skipSpaces_43 (post : zH → Prop) (h : zH) : Prop := post h
def b_K_skipSpaces_0 (post : zH → Prop) : Nat → zH → Prop
  | 0, _ => False
  | n + 1, h => (fun rc : zH → Prop => (((h.1 5 1) ≤ (h.1 30 1) → b_K_skipSpaces_43 post  h) ∧ (¬ (h.1 5 1) ≤ (h.1 30 1) → wp_A_signAt ((h.1 30 1)) h (fun (r1 : Int32) (h2 : zH) => ((¬ r1 = 32 → b_K_skipSpaces_43 post  h2) ∧ (r1 = 32 → (∀ h3 : zH, h3 = zi h2 30 1 ((h2.1 30 1) + 1) → rc  h3))))))) (b_K_skipSpaces_0 post n)
def wp_K_skipSpaces (h : zH) (post : zH → Prop) : Prop := (∃ n : Nat, b_K_skipSpaces_0 post n  h)
set_option maxRecDepth 100000 in
set_option maxHeartbeats 4000000 in
theorem w_K_skipSpaces_43 {l : Launch} {E : zE} {G : (Nat → Prop) → State → Prop} {p : Program} {e : Env} {s : State} {m : MethodId} {args : Array Value} {below : List Frame} {meth : Method} {c : Code} {A : Nat → Prop} {post : zH → Prop} (hG : xGG E G) (C : zCx p s m args meth c E G A 2 42 prog_7_method_4_code 1 cn_K) (hr : meth.sig.returnType = none)  (h : zH) (hw : b_K_skipSpaces_43 post  h) : zGo p l e s m args below meth c E A 2 42 1 (zPv post) h 43 [none] [] := by
  unfold b_K_skipSpaces_43 at hw
  exact z_vret C hr d_K_skipSpaces_43 hw
set_option maxRecDepth 100000 in
set_option maxHeartbeats 4000000 in
theorem w_K_skipSpaces_0 {l : Launch} {E : zE} {G : (Nat → Prop) → State → Prop} {p : Program} {e : Env} {s : State} {m : MethodId} {args : Array Value} {below : List Frame} {meth : Method} {c : Code} {A : Nat → Prop} {post : zH → Prop} (hG : xGG E G) (C : zCx p s m args meth c E G A 2 42 prog_7_method_4_code 1 cn_K) (hr : meth.sig.returnType = none) : ∀ (n : Nat) (h : zH), b_K_skipSpaces_0 post n  h → zGo p l e s m args below meth c E A 2 42 1 (zPv post) h 0 [some (.ref (E.2.2.1 30))] [] := by
  intro n
  induction n with
  | zero => intro  h hw; exact False.elim hw
  | succ n hrc =>
    intro  h hw
    unfold b_K_skipSpaces_0 at hw
    refine z_aload_n C (i := 0) d_K_skipSpaces_0 rfl rfl ?_
    refine z_getI C (ci := 5) (j := 1) (F := cf_K) (by decide) rfl rfl in_K (by decide) fl_K_9 rfl d_K_skipSpaces_1 ?_
    refine z_aload_n C (i := 0) d_K_skipSpaces_4 rfl rfl ?_
    refine z_getS C (ci := 5) (j := 0) (F := cf_K) (by decide) rfl rfl in_K (by decide) fl_K_24 rfl d_K_skipSpaces_5 ?_
    refine z_getIN C (ci := 2) (j := 1) (F := cf_A) (by decide) rfl rfl in_A (by decide) fn_K_53 rfl d_K_skipSpaces_8 ?_
    refine z_icmp_ge C (tgt := 43) d_K_skipSpaces_11 (by decide) (fun q => ?_) (fun q => ?_)
    · replace hw := hw.1 q
      refine z_le (lv2 := [none]) (trivial) ?_
      exact w_K_skipSpaces_43 hG C hr  _ hw
    · replace hw := hw.2 q
      refine z_aload_n C (i := 0) d_K_skipSpaces_14 rfl rfl ?_
      refine z_getS C (ci := 5) (j := 0) (F := cf_K) (by decide) rfl rfl in_K (by decide) fl_K_24 rfl d_K_skipSpaces_15 ?_
      refine z_aload_n C (i := 0) d_K_skipSpaces_18 rfl rfl ?_
      refine z_getI C (ci := 5) (j := 1) (F := cf_K) (by decide) rfl rfl in_K (by decide) fl_K_9 rfl d_K_skipSpaces_19 ?_
      refine z_callVNi ⟨xN_ok, hG.1⟩ zT_good C (t_A_signAt hG hw) wn_A_signAt nl_K_31 (by decide) rfl rfl (by decide) (by decide) pl_A_signAt rfl rfl (Nat.le_of_ble_eq_true rfl) d_K_skipSpaces_22 (fun r1 h2 hw => ?_)
      refine z_bipush C (v := 32) d_K_skipSpaces_25 (by decide) ?_
      refine z_icmp_ne C (tgt := 43) d_K_skipSpaces_27 (by decide) (fun q => ?_) (fun q => ?_)
      · replace hw := hw.1 q
        refine z_le (lv2 := [none]) (trivial) ?_
        exact w_K_skipSpaces_43 hG C hr  _ hw
      · replace hw := hw.2 q
        refine z_aload_n C (i := 0) d_K_skipSpaces_30 rfl rfl ?_
        refine z_dup C d_K_skipSpaces_31 rfl ?_
        refine z_getI C (ci := 5) (j := 1) (F := cf_K) (by decide) rfl rfl in_K (by decide) fl_K_9 rfl d_K_skipSpaces_32 ?_
        refine z_iconst C (v := 1) d_K_skipSpaces_35 (by decide) ?_
        refine z_iadd C d_K_skipSpaces_36 ?_
        refine z_putI C (ci := 5) (j := 1) (F := cf_K) ct_K (by decide) rfl rfl in_K ty_K nm_K (by decide) fl_K_9 rfl (by decide +kernel) rfl d_K_skipSpaces_37 (fun h3 eh3 => ?_)
        replace hw := hw h3 eh3
        refine z_goto C (tgt := 0) d_K_skipSpaces_40 (by decide) ?_
        refine z_le (lv2 := [some (.ref (E.2.2.1 30))]) (⟨rfl, trivial⟩) ?_
        exact hrc  _ hw
set_option maxRecDepth 100000 in
set_option maxHeartbeats 4000000 in
theorem t_K_skipSpaces {l : Launch} {E : zE} {G : (Nat → Prop) → State → Prop} (hG : xGG E G) {h : zH} {post : zH → Prop} (hw : wp_K_skipSpaces  h post) : Ct l xX E xcl xN zT G 2 42 y_K_skipSpaces prog_7_method_4_code 1 none [.ref (E.2.2.1 30)] h (zPv post) := by
  unfold wp_K_skipSpaces at hw
  refine Ct.of (by decide) (Nat.le_of_ble_eq_true rfl) ?_
  intro p e s m below meth c A C hr
  refine z_lv (lv2 := [some (.ref (E.2.2.1 30))]) rfl ?_
  refine z_le (lv2 := [some (.ref (E.2.2.1 30))]) (⟨rfl, trivial⟩) ?_
  obtain ⟨n, hw⟩ := hw
  exact w_K_skipSpaces_0 hG C hr n  _ hw
theorem d_K_advance_0 : decode prog_7_method_3_code 0 = .ok (.aload_n 0, 1) := by decide +kernel
theorem d_K_advance_1 : decode prog_7_method_3_code 1 = .ok (.invokevirtual 28, 3) := by decide +kernel
theorem d_K_advance_4 : decode prog_7_method_3_code 4 = .ok (.aload_n 0, 1) := by decide +kernel
theorem d_K_advance_5 : decode prog_7_method_3_code 5 = .ok (.aload_n 0, 1) := by decide +kernel
theorem d_K_advance_6 : decode prog_7_method_3_code 6 = .ok (.getfield 9, 3) := by decide +kernel
theorem d_K_advance_9 : decode prog_7_method_3_code 9 = .ok (.putfield 18, 3) := by decide +kernel
theorem d_K_advance_12 : decode prog_7_method_3_code 12 = .ok (.aload_n 0, 1) := by decide +kernel
theorem d_K_advance_13 : decode prog_7_method_3_code 13 = .ok (.getfield 24, 3) := by decide +kernel
theorem d_K_advance_16 : decode prog_7_method_3_code 16 = .ok (.aload_n 0, 1) := by decide +kernel
theorem d_K_advance_17 : decode prog_7_method_3_code 17 = .ok (.getfield 9, 3) := by decide +kernel
theorem d_K_advance_20 : decode prog_7_method_3_code 20 = .ok (.invokevirtual 31, 3) := by decide +kernel
theorem d_K_advance_23 : decode prog_7_method_3_code 23 = .ok (.istore_n 1, 1) := by decide +kernel
theorem d_K_advance_24 : decode prog_7_method_3_code 24 = .ok (.iload_n 1, 1) := by decide +kernel
theorem d_K_advance_25 : decode prog_7_method_3_code 25 = .ok (.iconst (-1), 1) := by decide +kernel
theorem d_K_advance_26 : decode prog_7_method_3_code 26 = .ok (.if_icmp .ne (11), 3) := by decide +kernel
theorem d_K_advance_29 : decode prog_7_method_3_code 29 = .ok (.aload_n 0, 1) := by decide +kernel
theorem d_K_advance_30 : decode prog_7_method_3_code 30 = .ok (.iconst 1, 1) := by decide +kernel
theorem d_K_advance_31 : decode prog_7_method_3_code 31 = .ok (.putfield 15, 3) := by decide +kernel
theorem d_K_advance_34 : decode prog_7_method_3_code 34 = .ok (.goto (53), 3) := by decide +kernel
theorem d_K_advance_37 : decode prog_7_method_3_code 37 = .ok (.iload_n 1, 1) := by decide +kernel
theorem d_K_advance_38 : decode prog_7_method_3_code 38 = .ok (.invokestatic 37, 3) := by decide +kernel
theorem d_K_advance_41 : decode prog_7_method_3_code 41 = .ok (.ifCond .eq (10), 3) := by decide +kernel
theorem d_K_advance_44 : decode prog_7_method_3_code 44 = .ok (.aload_n 0, 1) := by decide +kernel
theorem d_K_advance_45 : decode prog_7_method_3_code 45 = .ok (.invokevirtual 41, 3) := by decide +kernel
theorem d_K_advance_48 : decode prog_7_method_3_code 48 = .ok (.goto (39), 3) := by decide +kernel
theorem d_K_advance_51 : decode prog_7_method_3_code 51 = .ok (.iload_n 1, 1) := by decide +kernel
theorem d_K_advance_52 : decode prog_7_method_3_code 52 = .ok (.bipush (118), 2) := by decide +kernel
theorem d_K_advance_54 : decode prog_7_method_3_code 54 = .ok (.if_icmp .ne (10), 3) := by decide +kernel
theorem d_K_advance_57 : decode prog_7_method_3_code 57 = .ok (.aload_n 0, 1) := by decide +kernel
theorem d_K_advance_58 : decode prog_7_method_3_code 58 = .ok (.invokevirtual 44, 3) := by decide +kernel
theorem d_K_advance_61 : decode prog_7_method_3_code 61 = .ok (.goto (26), 3) := by decide +kernel
theorem d_K_advance_64 : decode prog_7_method_3_code 64 = .ok (.iload_n 1, 1) := by decide +kernel
theorem d_K_advance_65 : decode prog_7_method_3_code 65 = .ok (.bipush (109), 2) := by decide +kernel
theorem d_K_advance_67 : decode prog_7_method_3_code 67 = .ok (.if_icmp .eq (9), 3) := by decide +kernel
theorem d_K_advance_70 : decode prog_7_method_3_code 70 = .ok (.iload_n 1, 1) := by decide +kernel
theorem d_K_advance_71 : decode prog_7_method_3_code 71 = .ok (.bipush (97), 2) := by decide +kernel
theorem d_K_advance_73 : decode prog_7_method_3_code 73 = .ok (.if_icmp .ne (10), 3) := by decide +kernel
theorem d_K_advance_76 : decode prog_7_method_3_code 76 = .ok (.aload_n 0, 1) := by decide +kernel
theorem d_K_advance_77 : decode prog_7_method_3_code 77 = .ok (.invokevirtual 47, 3) := by decide +kernel
theorem d_K_advance_80 : decode prog_7_method_3_code 80 = .ok (.goto (7), 3) := by decide +kernel
theorem d_K_advance_83 : decode prog_7_method_3_code 83 = .ok (.aload_n 0, 1) := by decide +kernel
theorem d_K_advance_84 : decode prog_7_method_3_code 84 = .ok (.invokevirtual 50, 3) := by decide +kernel
theorem d_K_advance_87 : decode prog_7_method_3_code 87 = .ok (.return_, 1) := by decide +kernel
def b_K_advance_87 (post : zH → Prop) (h : zH) : Prop := post h
def b_K_advance_76 (post : zH → Prop) (h : zH) : Prop := wp_K_readWord  h (fun (h2 : zH) => b_K_advance_87 post  h2)
def wp_K_advance (h : zH) (post : zH → Prop) : Prop := wp_K_skipSpaces  h (fun (h4 : zH) => (∀ h5 : zH, h5 = zi h4 30 3 (h4.1 30 1) → wp_A_signAt ((h5.1 30 1)) h5 (fun (r6 : Int32) (h7 : zH) => ((¬ r6 = (-1) → wp_R_isDigit (r6) h7 (fun (r8 : Int32) (h9 : zH) => ((r8 = 0 → ((¬ r6 = 118 → ((r6 = 109 → b_K_advance_76 post  h9) ∧ (¬ r6 = 109 → ((¬ r6 = 97 → wp_K_readMark  h9 (fun (h11 : zH) => b_K_advance_87 post  h11)) ∧ (r6 = 97 → b_K_advance_76 post  h9))))) ∧ (r6 = 118 → wp_K_readVariable  h9 (fun (h13 : zH) => b_K_advance_87 post  h13)))) ∧ (¬ r8 = 0 → wp_K_readDigits  h9 (fun (h15 : zH) => b_K_advance_87 post  h15))))) ∧ (r6 = (-1) → (∀ h16 : zH, h16 = zi h7 30 2 1 → b_K_advance_87 post  h16))))))
set_option maxRecDepth 100000 in
set_option maxHeartbeats 4000000 in
theorem w_K_advance_87 {l : Launch} {E : zE} {G : (Nat → Prop) → State → Prop} {p : Program} {e : Env} {s : State} {m : MethodId} {args : Array Value} {below : List Frame} {meth : Method} {c : Code} {A : Nat → Prop} {post : zH → Prop} (hG : xGG E G) (C : zCx p s m args meth c E G A 6 133 prog_7_method_3_code 2 cn_K) (hr : meth.sig.returnType = none)  (h : zH) (hw : b_K_advance_87 post  h) : zGo p l e s m args below meth c E A 6 133 2 (zPv post) h 87 [none, none] [] := by
  unfold b_K_advance_87 at hw
  exact z_vret C hr d_K_advance_87 hw
set_option maxRecDepth 100000 in
set_option maxHeartbeats 4000000 in
theorem w_K_advance_76 {l : Launch} {E : zE} {G : (Nat → Prop) → State → Prop} {p : Program} {e : Env} {s : State} {m : MethodId} {args : Array Value} {below : List Frame} {meth : Method} {c : Code} {A : Nat → Prop} {post : zH → Prop} (hG : xGG E G) (C : zCx p s m args meth c E G A 6 133 prog_7_method_3_code 2 cn_K) (hr : meth.sig.returnType = none)  (h : zH) (hw : b_K_advance_76 post  h) : zGo p l e s m args below meth c E A 6 133 2 (zPv post) h 76 [some (.ref (E.2.2.1 30)), none] [] := by
  unfold b_K_advance_76 at hw
  refine z_aload_n C (i := 0) d_K_advance_76 rfl rfl ?_
  refine z_callVv ⟨xN_ok, hG.1⟩ zT_good C (t_K_readWord hG hw) ol_K_47 (by decide) rfl rfl (by decide) (by decide) pl_K_readWord rfl rfl (Nat.le_of_ble_eq_true rfl) d_K_advance_77 (fun h2 hw => ?_)
  refine z_goto C (tgt := 87) d_K_advance_80 (by decide) ?_
  refine z_le (lv2 := [none, none]) (trivial) ?_
  exact w_K_advance_87 hG C hr  _ hw
set_option maxRecDepth 100000 in
set_option maxHeartbeats 4000000 in
theorem t_K_advance {l : Launch} {E : zE} {G : (Nat → Prop) → State → Prop} (hG : xGG E G) {h : zH} {post : zH → Prop} (hw : wp_K_advance  h post) : Ct l xX E xcl xN zT G 6 133 y_K_advance prog_7_method_3_code 2 none [.ref (E.2.2.1 30)] h (zPv post) := by
  unfold wp_K_advance at hw
  refine Ct.of (by decide) (Nat.le_of_ble_eq_true rfl) ?_
  intro p e s m below meth c A C hr
  refine z_lv (lv2 := [some (.ref (E.2.2.1 30)), none]) rfl ?_
  refine z_aload_n C (i := 0) d_K_advance_0 rfl rfl ?_
  refine z_callVv ⟨xN_ok, hG.1⟩ zT_good C (t_K_skipSpaces hG hw) ol_K_28 (by decide) rfl rfl (by decide) (by decide) pl_K_skipSpaces rfl rfl (Nat.le_of_ble_eq_true rfl) d_K_advance_1 (fun h4 hw => ?_)
  refine z_aload_n C (i := 0) d_K_advance_4 rfl rfl ?_
  refine z_aload_n C (i := 0) d_K_advance_5 rfl rfl ?_
  refine z_getI C (ci := 5) (j := 1) (F := cf_K) (by decide) rfl rfl in_K (by decide) fl_K_9 rfl d_K_advance_6 ?_
  refine z_putI C (ci := 5) (j := 3) (F := cf_K) ct_K (by decide) rfl rfl in_K ty_K nm_K (by decide) fl_K_18 rfl (by decide +kernel) rfl d_K_advance_9 (fun h5 eh5 => ?_)
  replace hw := hw h5 eh5
  refine z_aload_n C (i := 0) d_K_advance_12 rfl rfl ?_
  refine z_getS C (ci := 5) (j := 0) (F := cf_K) (by decide) rfl rfl in_K (by decide) fl_K_24 rfl d_K_advance_13 ?_
  refine z_aload_n C (i := 0) d_K_advance_16 rfl rfl ?_
  refine z_getI C (ci := 5) (j := 1) (F := cf_K) (by decide) rfl rfl in_K (by decide) fl_K_9 rfl d_K_advance_17 ?_
  refine z_callVNi ⟨xN_ok, hG.1⟩ zT_good C (t_A_signAt hG hw) wn_A_signAt nl_K_31 (by decide) rfl rfl (by decide) (by decide) pl_A_signAt rfl rfl (Nat.le_of_ble_eq_true rfl) d_K_advance_20 (fun r6 h7 hw => ?_)
  refine z_istore_n C (i := 1) d_K_advance_23 rfl (by decide) rfl ?_
  refine z_iload_n C (i := 1) d_K_advance_24 rfl rfl ?_
  refine z_iconst C (v := (-1)) d_K_advance_25 (by decide) ?_
  refine z_icmp_ne C (tgt := 37) d_K_advance_26 (by decide) (fun q => ?_) (fun q => ?_)
  · replace hw := hw.1 q
    refine z_iload_n C (i := 1) d_K_advance_37 rfl rfl ?_
    refine z_callSNi ⟨xN_ok, hG.1⟩ zT_good C (t_R_isDigit hG hw) wn_R_isDigit nl_K_37 (by decide) (by decide) pl_R_isDigit rfl rfl (Nat.le_of_ble_eq_true rfl) d_K_advance_38 (fun r8 h9 hw => ?_)
    refine z_if_eq C (tgt := 51) d_K_advance_41 (by decide) (fun q => ?_) (fun q => ?_)
    · replace hw := hw.1 q
      refine z_iload_n C (i := 1) d_K_advance_51 rfl rfl ?_
      refine z_bipush C (v := 118) d_K_advance_52 (by decide) ?_
      refine z_icmp_ne C (tgt := 64) d_K_advance_54 (by decide) (fun q => ?_) (fun q => ?_)
      · replace hw := hw.1 q
        refine z_iload_n C (i := 1) d_K_advance_64 rfl rfl ?_
        refine z_bipush C (v := 109) d_K_advance_65 (by decide) ?_
        refine z_icmp_eq C (tgt := 76) d_K_advance_67 (by decide) (fun q => ?_) (fun q => ?_)
        · replace hw := hw.1 q
          refine z_le (lv2 := [some (.ref (E.2.2.1 30)), none]) (⟨rfl, trivial⟩) ?_
          exact w_K_advance_76 hG C hr  _ hw
        · replace hw := hw.2 q
          refine z_iload_n C (i := 1) d_K_advance_70 rfl rfl ?_
          refine z_bipush C (v := 97) d_K_advance_71 (by decide) ?_
          refine z_icmp_ne C (tgt := 83) d_K_advance_73 (by decide) (fun q => ?_) (fun q => ?_)
          · replace hw := hw.1 q
            refine z_aload_n C (i := 0) d_K_advance_83 rfl rfl ?_
            refine z_callVv ⟨xN_ok, hG.1⟩ zT_good C (t_K_readMark hG hw) ol_K_50 (by decide) rfl rfl (by decide) (by decide) pl_K_readMark rfl rfl (Nat.le_of_ble_eq_true rfl) d_K_advance_84 (fun h11 hw => ?_)
            refine z_le (lv2 := [none, none]) (trivial) ?_
            exact w_K_advance_87 hG C hr  _ hw
          · replace hw := hw.2 q
            refine z_le (lv2 := [some (.ref (E.2.2.1 30)), none]) (⟨rfl, trivial⟩) ?_
            exact w_K_advance_76 hG C hr  _ hw
      · replace hw := hw.2 q
        refine z_aload_n C (i := 0) d_K_advance_57 rfl rfl ?_
        refine z_callVv ⟨xN_ok, hG.1⟩ zT_good C (t_K_readVariable hG hw) ol_K_44 (by decide) rfl rfl (by decide) (by decide) pl_K_readVariable rfl rfl (Nat.le_of_ble_eq_true rfl) d_K_advance_58 (fun h13 hw => ?_)
        refine z_goto C (tgt := 87) d_K_advance_61 (by decide) ?_
        refine z_le (lv2 := [none, none]) (trivial) ?_
        exact w_K_advance_87 hG C hr  _ hw
    · replace hw := hw.2 q
      refine z_aload_n C (i := 0) d_K_advance_44 rfl rfl ?_
      refine z_callVv ⟨xN_ok, hG.1⟩ zT_good C (t_K_readDigits hG hw) ol_K_41 (by decide) rfl rfl (by decide) (by decide) pl_K_readDigits rfl rfl (Nat.le_of_ble_eq_true rfl) d_K_advance_45 (fun h15 hw => ?_)
      refine z_goto C (tgt := 87) d_K_advance_48 (by decide) ?_
      refine z_le (lv2 := [none, none]) (trivial) ?_
      exact w_K_advance_87 hG C hr  _ hw
  · replace hw := hw.2 q
    refine z_aload_n C (i := 0) d_K_advance_29 rfl rfl ?_
    refine z_iconst C (v := 1) d_K_advance_30 (by decide) ?_
    refine z_putI C (ci := 5) (j := 2) (F := cf_K) ct_K (by decide) rfl rfl in_K ty_K nm_K (by decide) fl_K_15 rfl (by decide +kernel) rfl d_K_advance_31 (fun h16 eh16 => ?_)
    replace hw := hw h16 eh16
    refine z_goto C (tgt := 87) d_K_advance_34 (by decide) ?_
    refine z_le (lv2 := [none, none]) (trivial) ?_
    exact w_K_advance_87 hG C hr  _ hw
theorem d_K_restart_0 : decode prog_7_method_2_code 0 = .ok (.aload_n 0, 1) := by decide +kernel
theorem d_K_restart_1 : decode prog_7_method_2_code 1 = .ok (.iconst 0, 1) := by decide +kernel
theorem d_K_restart_2 : decode prog_7_method_2_code 2 = .ok (.putfield 9, 3) := by decide +kernel
theorem d_K_restart_5 : decode prog_7_method_2_code 5 = .ok (.return_, 1) := by decide +kernel
def wp_K_restart (h : zH) (post : zH → Prop) : Prop := (∀ h1 : zH, h1 = zi h 30 1 0 → post h1)
set_option maxRecDepth 100000 in
set_option maxHeartbeats 4000000 in
theorem t_K_restart {l : Launch} {E : zE} {G : (Nat → Prop) → State → Prop} (hG : xGG E G) {h : zH} {post : zH → Prop} (hw : wp_K_restart  h post) : Ct l xX E xcl xN zT G 0 0 y_K_restart prog_7_method_2_code 1 none [.ref (E.2.2.1 30)] h (zPv post) := by
  unfold wp_K_restart at hw
  refine Ct.of (by decide) (Nat.le_of_ble_eq_true rfl) ?_
  intro p e s m below meth c A C hr
  refine z_lv (lv2 := [some (.ref (E.2.2.1 30))]) rfl ?_
  refine z_aload_n C (i := 0) d_K_restart_0 rfl rfl ?_
  refine z_iconst C (v := 0) d_K_restart_1 (by decide) ?_
  refine z_putI C (ci := 5) (j := 1) (F := cf_K) ct_K (by decide) rfl rfl in_K ty_K nm_K (by decide) fl_K_9 rfl (by decide +kernel) rfl d_K_restart_2 (fun h1 eh1 => ?_)
  replace hw := hw h1 eh1
  exact z_vret C hr d_K_restart_5 hw
theorem d_M_at_0 : decode prog_10_method_7_code 0 = .ok (.iload_n 1, 1) := by decide +kernel
theorem d_M_at_1 : decode prog_10_method_7_code 1 = .ok (.aload_n 0, 1) := by decide +kernel
theorem d_M_at_2 : decode prog_10_method_7_code 2 = .ok (.getfield 86, 3) := by decide +kernel
theorem d_M_at_5 : decode prog_10_method_7_code 5 = .ok (.if_icmp .ge (12), 3) := by decide +kernel
theorem d_M_at_8 : decode prog_10_method_7_code 8 = .ok (.aload_n 0, 1) := by decide +kernel
theorem d_M_at_9 : decode prog_10_method_7_code 9 = .ok (.getfield 19, 3) := by decide +kernel
theorem d_M_at_12 : decode prog_10_method_7_code 12 = .ok (.iload_n 1, 1) := by decide +kernel
theorem d_M_at_13 : decode prog_10_method_7_code 13 = .ok (.iaload, 1) := by decide +kernel
theorem d_M_at_14 : decode prog_10_method_7_code 14 = .ok (.goto (4), 3) := by decide +kernel
theorem d_M_at_17 : decode prog_10_method_7_code 17 = .ok (.iconst 0, 1) := by decide +kernel
theorem d_M_at_18 : decode prog_10_method_7_code 18 = .ok (.ireturn, 1) := by decide +kernel
def b_M_at_18 (post : Int32 → zH → Prop) (s0 : Int32) (h : zH) : Prop := post s0 h
def wp_M_at (l1 : Int32) (h : zH) (post : Int32 → zH → Prop) : Prop := (((h.1 39 7) ≤ l1 → b_M_at_18 post (0) h) ∧ (¬ (h.1 39 7) ≤ l1 → (vp_in l1 400 ∧ b_M_at_18 post ((h.1 43 (l1 : Int32).toNatClampNeg)) h)))
set_option maxRecDepth 100000 in
set_option maxHeartbeats 4000000 in
theorem w_M_at_18 {l : Launch} {E : zE} {G : (Nat → Prop) → State → Prop} {p : Program} {e : Env} {s : State} {m : MethodId} {args : Array Value} {below : List Frame} {meth : Method} {c : Code} {A : Nat → Prop} {post : Int32 → zH → Prop} (hG : xGG E G) (C : zCx p s m args meth c E G A 0 0 prog_10_method_7_code 2 cn_M) (hr : meth.sig.returnType = (some .int))  (s0 : Int32) (h : zH) (hw : b_M_at_18 post s0 h) : zGo p l e s m args below meth c E A 0 0 2 (zPi post) h 18 [none, none] [.int s0] := by
  unfold b_M_at_18 at hw
  exact z_iret C hr d_M_at_18 hw
set_option maxRecDepth 100000 in
set_option maxHeartbeats 4000000 in
theorem t_M_at {l : Launch} {E : zE} {G : (Nat → Prop) → State → Prop} (hG : xGG E G) {l1 : Int32} {h : zH} {post : Int32 → zH → Prop} (hw : wp_M_at l1 h post) : Ct l xX E xcl xN zT G 0 0 y_M_at prog_10_method_7_code 2 (some .int) [.ref (E.2.2.1 39), .int l1] h (zPi post) := by
  unfold wp_M_at at hw
  refine Ct.of (by decide) (Nat.le_of_ble_eq_true rfl) ?_
  intro p e s m below meth c A C hr
  refine z_lv (lv2 := [some (.ref (E.2.2.1 39)), some (.int l1)]) rfl ?_
  refine z_iload_n C (i := 1) d_M_at_0 rfl rfl ?_
  refine z_aload_n C (i := 0) d_M_at_1 rfl rfl ?_
  refine z_getI C (ci := 8) (j := 7) (F := cf_M) (by decide) rfl rfl in_M (by decide) fl_M_86 rfl d_M_at_2 ?_
  refine z_icmp_ge C (tgt := 17) d_M_at_5 (by decide) (fun q => ?_) (fun q => ?_)
  · replace hw := hw.1 q
    refine z_iconst C (v := 0) d_M_at_17 (by decide) ?_
    refine z_le (lv2 := [none, none]) (trivial) ?_
    exact w_M_at_18 hG C hr _ _ hw
  · replace hw := hw.2 q
    refine z_aload_n C (i := 0) d_M_at_8 rfl rfl ?_
    refine z_getS C (ci := 8) (j := 5) (F := cf_M) (by decide) rfl rfl in_M (by decide) fl_M_19 rfl d_M_at_9 ?_
    refine z_iload_n C (i := 1) d_M_at_12 rfl rfl ?_
    refine z_iald C (by decide) rfl hw.1 d_M_at_13 ?_
    replace hw := hw.2
    refine z_goto C (tgt := 18) d_M_at_14 (by decide) ?_
    refine z_le (lv2 := [none, none]) (trivial) ?_
    exact w_M_at_18 hG C hr _ _ hw
theorem d_M_bad_0 : decode prog_10_method_12_code 0 = .ok (.aload_n 0, 1) := by decide +kernel
theorem d_M_bad_1 : decode prog_10_method_12_code 1 = .ok (.getfield 118, 3) := by decide +kernel
theorem d_M_bad_4 : decode prog_10_method_12_code 4 = .ok (.ifCond .ne (13), 3) := by decide +kernel
theorem d_M_bad_7 : decode prog_10_method_12_code 7 = .ok (.aload_n 0, 1) := by decide +kernel
theorem d_M_bad_8 : decode prog_10_method_12_code 8 = .ok (.iload_n 1, 1) := by decide +kernel
theorem d_M_bad_9 : decode prog_10_method_12_code 9 = .ok (.bipush (8), 2) := by decide +kernel
theorem d_M_bad_11 : decode prog_10_method_12_code 11 = .ok (.iload_n 2, 1) := by decide +kernel
theorem d_M_bad_12 : decode prog_10_method_12_code 12 = .ok (.imul, 1) := by decide +kernel
theorem d_M_bad_13 : decode prog_10_method_12_code 13 = .ok (.iadd, 1) := by decide +kernel
theorem d_M_bad_14 : decode prog_10_method_12_code 14 = .ok (.putfield 118, 3) := by decide +kernel
theorem d_M_bad_17 : decode prog_10_method_12_code 17 = .ok (.return_, 1) := by decide +kernel
def b_M_bad_17 (post : zH → Prop) (h : zH) : Prop := post h
def wp_M_bad (l1 : Int32) (l2 : Int32) (h : zH) (post : zH → Prop) : Prop := ((¬ (h.1 39 24) = 0 → b_M_bad_17 post  h) ∧ ((h.1 39 24) = 0 → (∀ h1 : zH, h1 = zi h 39 24 (l1 + (8 * l2)) → b_M_bad_17 post  h1)))
set_option maxRecDepth 100000 in
set_option maxHeartbeats 4000000 in
theorem w_M_bad_17 {l : Launch} {E : zE} {G : (Nat → Prop) → State → Prop} {p : Program} {e : Env} {s : State} {m : MethodId} {args : Array Value} {below : List Frame} {meth : Method} {c : Code} {A : Nat → Prop} {post : zH → Prop} (hG : xGG E G) (C : zCx p s m args meth c E G A 0 0 prog_10_method_12_code 3 cn_M) (hr : meth.sig.returnType = none)  (h : zH) (hw : b_M_bad_17 post  h) : zGo p l e s m args below meth c E A 0 0 3 (zPv post) h 17 [none, none, none] [] := by
  unfold b_M_bad_17 at hw
  exact z_vret C hr d_M_bad_17 hw
set_option maxRecDepth 100000 in
set_option maxHeartbeats 4000000 in
theorem t_M_bad {l : Launch} {E : zE} {G : (Nat → Prop) → State → Prop} (hG : xGG E G) {l1 : Int32} {l2 : Int32} {h : zH} {post : zH → Prop} (hw : wp_M_bad l1 l2 h post) : Ct l xX E xcl xN zT G 0 0 y_M_bad prog_10_method_12_code 3 none [.ref (E.2.2.1 39), .int l1, .int l2] h (zPv post) := by
  unfold wp_M_bad at hw
  refine Ct.of (by decide) (Nat.le_of_ble_eq_true rfl) ?_
  intro p e s m below meth c A C hr
  refine z_lv (lv2 := [some (.ref (E.2.2.1 39)), some (.int l1), some (.int l2)]) rfl ?_
  refine z_aload_n C (i := 0) d_M_bad_0 rfl rfl ?_
  refine z_getI C (ci := 8) (j := 24) (F := cf_M) (by decide) rfl rfl in_M (by decide) fl_M_118 rfl d_M_bad_1 ?_
  refine z_if_ne C (tgt := 17) d_M_bad_4 (by decide) (fun q => ?_) (fun q => ?_)
  · replace hw := hw.1 q
    refine z_le (lv2 := [none, none, none]) (trivial) ?_
    exact w_M_bad_17 hG C hr  _ hw
  · replace hw := hw.2 q
    refine z_aload_n C (i := 0) d_M_bad_7 rfl rfl ?_
    refine z_iload_n C (i := 1) d_M_bad_8 rfl rfl ?_
    refine z_bipush C (v := 8) d_M_bad_9 (by decide) ?_
    refine z_iload_n C (i := 2) d_M_bad_11 rfl rfl ?_
    refine z_imul C d_M_bad_12 ?_
    refine z_iadd C d_M_bad_13 ?_
    refine z_putI C (ci := 8) (j := 24) (F := cf_M) ct_M (by decide) rfl rfl in_M ty_M nm_M (by decide) fl_M_118 rfl (by decide +kernel) rfl d_M_bad_14 (fun h1 eh1 => ?_)
    replace hw := hw h1 eh1
    refine z_le (lv2 := [none, none, none]) (trivial) ?_
    exact w_M_bad_17 hG C hr  _ hw
theorem d_M_hold_0 : decode prog_10_method_14_code 0 = .ok (.aload_n 0, 1) := by decide +kernel
theorem d_M_hold_1 : decode prog_10_method_14_code 1 = .ok (.getfield 53, 3) := by decide +kernel
theorem d_M_hold_4 : decode prog_10_method_14_code 4 = .ok (.aload_n 0, 1) := by decide +kernel
theorem d_M_hold_5 : decode prog_10_method_14_code 5 = .ok (.getfield 128, 3) := by decide +kernel
theorem d_M_hold_8 : decode prog_10_method_14_code 8 = .ok (.iload_n 1, 1) := by decide +kernel
theorem d_M_hold_9 : decode prog_10_method_14_code 9 = .ok (.iastore, 1) := by decide +kernel
theorem d_M_hold_10 : decode prog_10_method_14_code 10 = .ok (.aload_n 0, 1) := by decide +kernel
theorem d_M_hold_11 : decode prog_10_method_14_code 11 = .ok (.getfield 56, 3) := by decide +kernel
theorem d_M_hold_14 : decode prog_10_method_14_code 14 = .ok (.aload_n 0, 1) := by decide +kernel
theorem d_M_hold_15 : decode prog_10_method_14_code 15 = .ok (.getfield 128, 3) := by decide +kernel
theorem d_M_hold_18 : decode prog_10_method_14_code 18 = .ok (.iload_n 2, 1) := by decide +kernel
theorem d_M_hold_19 : decode prog_10_method_14_code 19 = .ok (.iastore, 1) := by decide +kernel
theorem d_M_hold_20 : decode prog_10_method_14_code 20 = .ok (.aload_n 0, 1) := by decide +kernel
theorem d_M_hold_21 : decode prog_10_method_14_code 21 = .ok (.getfield 59, 3) := by decide +kernel
theorem d_M_hold_24 : decode prog_10_method_14_code 24 = .ok (.aload_n 0, 1) := by decide +kernel
theorem d_M_hold_25 : decode prog_10_method_14_code 25 = .ok (.getfield 128, 3) := by decide +kernel
theorem d_M_hold_28 : decode prog_10_method_14_code 28 = .ok (.iconst 0, 1) := by decide +kernel
theorem d_M_hold_29 : decode prog_10_method_14_code 29 = .ok (.iastore, 1) := by decide +kernel
theorem d_M_hold_30 : decode prog_10_method_14_code 30 = .ok (.aload_n 0, 1) := by decide +kernel
theorem d_M_hold_31 : decode prog_10_method_14_code 31 = .ok (.dup, 1) := by decide +kernel
theorem d_M_hold_32 : decode prog_10_method_14_code 32 = .ok (.getfield 128, 3) := by decide +kernel
theorem d_M_hold_35 : decode prog_10_method_14_code 35 = .ok (.iconst 1, 1) := by decide +kernel
theorem d_M_hold_36 : decode prog_10_method_14_code 36 = .ok (.iadd, 1) := by decide +kernel
theorem d_M_hold_37 : decode prog_10_method_14_code 37 = .ok (.putfield 128, 3) := by decide +kernel
theorem d_M_hold_40 : decode prog_10_method_14_code 40 = .ok (.return_, 1) := by decide +kernel
def wp_M_hold (l1 : Int32) (l2 : Int32) (h : zH) (post : zH → Prop) : Prop := (vp_in (h.1 39 28) 300 ∧ ∀ h1 : zH, h1 = zi h 54 ((h.1 39 28) : Int32).toNatClampNeg l1 → (vp_in (h1.1 39 28) 300 ∧ ∀ h2 : zH, h2 = zi h1 55 ((h1.1 39 28) : Int32).toNatClampNeg l2 → (vp_in (h2.1 39 28) 300 ∧ ∀ h3 : zH, h3 = zi h2 56 ((h2.1 39 28) : Int32).toNatClampNeg 0 → (∀ h4 : zH, h4 = zi h3 39 28 ((h3.1 39 28) + 1) → post h4))))
set_option maxRecDepth 100000 in
set_option maxHeartbeats 4000000 in
theorem t_M_hold {l : Launch} {E : zE} {G : (Nat → Prop) → State → Prop} (hG : xGG E G) {l1 : Int32} {l2 : Int32} {h : zH} {post : zH → Prop} (hw : wp_M_hold l1 l2 h post) : Ct l xX E xcl xN zT G 0 0 y_M_hold prog_10_method_14_code 3 none [.ref (E.2.2.1 39), .int l1, .int l2] h (zPv post) := by
  unfold wp_M_hold at hw
  refine Ct.of (by decide) (Nat.le_of_ble_eq_true rfl) ?_
  intro p e s m below meth c A C hr
  refine z_lv (lv2 := [some (.ref (E.2.2.1 39)), some (.int l1), some (.int l2)]) rfl ?_
  refine z_aload_n C (i := 0) d_M_hold_0 rfl rfl ?_
  refine z_getS C (ci := 8) (j := 25) (F := cf_M) (by decide) rfl rfl in_M (by decide) fl_M_53 rfl d_M_hold_1 ?_
  refine z_aload_n C (i := 0) d_M_hold_4 rfl rfl ?_
  refine z_getI C (ci := 8) (j := 28) (F := cf_M) (by decide) rfl rfl in_M (by decide) fl_M_128 rfl d_M_hold_5 ?_
  refine z_iload_n C (i := 1) d_M_hold_8 rfl rfl ?_
  refine z_iast C (by decide) rfl hw.1 d_M_hold_9 (fun h1 eh1 => ?_)
  replace hw := hw.2 h1 eh1
  refine z_aload_n C (i := 0) d_M_hold_10 rfl rfl ?_
  refine z_getS C (ci := 8) (j := 26) (F := cf_M) (by decide) rfl rfl in_M (by decide) fl_M_56 rfl d_M_hold_11 ?_
  refine z_aload_n C (i := 0) d_M_hold_14 rfl rfl ?_
  refine z_getI C (ci := 8) (j := 28) (F := cf_M) (by decide) rfl rfl in_M (by decide) fl_M_128 rfl d_M_hold_15 ?_
  refine z_iload_n C (i := 2) d_M_hold_18 rfl rfl ?_
  refine z_iast C (by decide) rfl hw.1 d_M_hold_19 (fun h2 eh2 => ?_)
  replace hw := hw.2 h2 eh2
  refine z_aload_n C (i := 0) d_M_hold_20 rfl rfl ?_
  refine z_getS C (ci := 8) (j := 27) (F := cf_M) (by decide) rfl rfl in_M (by decide) fl_M_59 rfl d_M_hold_21 ?_
  refine z_aload_n C (i := 0) d_M_hold_24 rfl rfl ?_
  refine z_getI C (ci := 8) (j := 28) (F := cf_M) (by decide) rfl rfl in_M (by decide) fl_M_128 rfl d_M_hold_25 ?_
  refine z_iconst C (v := 0) d_M_hold_28 (by decide) ?_
  refine z_iast C (by decide) rfl hw.1 d_M_hold_29 (fun h3 eh3 => ?_)
  replace hw := hw.2 h3 eh3
  refine z_aload_n C (i := 0) d_M_hold_30 rfl rfl ?_
  refine z_dup C d_M_hold_31 rfl ?_
  refine z_getI C (ci := 8) (j := 28) (F := cf_M) (by decide) rfl rfl in_M (by decide) fl_M_128 rfl d_M_hold_32 ?_
  refine z_iconst C (v := 1) d_M_hold_35 (by decide) ?_
  refine z_iadd C d_M_hold_36 ?_
  refine z_putI C (ci := 8) (j := 28) (F := cf_M) ct_M (by decide) rfl rfl in_M ty_M nm_M (by decide) fl_M_128 rfl (by decide +kernel) rfl d_M_hold_37 (fun h4 eh4 => ?_)
  replace hw := hw h4 eh4
  exact z_vret C hr d_M_hold_40 hw
theorem d_M_enter_0 : decode prog_10_method_15_code 0 = .ok (.aload_n 0, 1) := by decide +kernel
theorem d_M_enter_1 : decode prog_10_method_15_code 1 = .ok (.getfield 131, 3) := by decide +kernel
theorem d_M_enter_4 : decode prog_10_method_15_code 4 = .ok (.bipush (32), 2) := by decide +kernel
theorem d_M_enter_6 : decode prog_10_method_15_code 6 = .ok (.if_icmp .ne (12), 3) := by decide +kernel
theorem d_M_enter_9 : decode prog_10_method_15_code 9 = .ok (.aload_n 0, 1) := by decide +kernel
theorem d_M_enter_10 : decode prog_10_method_15_code 10 = .ok (.iconst 5, 1) := by decide +kernel
theorem d_M_enter_11 : decode prog_10_method_15_code 11 = .ok (.aload_n 0, 1) := by decide +kernel
theorem d_M_enter_12 : decode prog_10_method_15_code 12 = .ok (.getfield 93, 3) := by decide +kernel
theorem d_M_enter_15 : decode prog_10_method_15_code 15 = .ok (.invokevirtual 124, 3) := by decide +kernel
theorem d_M_enter_18 : decode prog_10_method_15_code 18 = .ok (.aload_n 0, 1) := by decide +kernel
theorem d_M_enter_19 : decode prog_10_method_15_code 19 = .ok (.dup, 1) := by decide +kernel
theorem d_M_enter_20 : decode prog_10_method_15_code 20 = .ok (.getfield 131, 3) := by decide +kernel
theorem d_M_enter_23 : decode prog_10_method_15_code 23 = .ok (.iconst 1, 1) := by decide +kernel
theorem d_M_enter_24 : decode prog_10_method_15_code 24 = .ok (.iadd, 1) := by decide +kernel
theorem d_M_enter_25 : decode prog_10_method_15_code 25 = .ok (.putfield 131, 3) := by decide +kernel
theorem d_M_enter_28 : decode prog_10_method_15_code 28 = .ok (.aload_n 0, 1) := by decide +kernel
theorem d_M_enter_29 : decode prog_10_method_15_code 29 = .ok (.iload_n 1, 1) := by decide +kernel
theorem d_M_enter_30 : decode prog_10_method_15_code 30 = .ok (.aload_n 0, 1) := by decide +kernel
theorem d_M_enter_31 : decode prog_10_method_15_code 31 = .ok (.getfield 93, 3) := by decide +kernel
theorem d_M_enter_34 : decode prog_10_method_15_code 34 = .ok (.invokevirtual 134, 3) := by decide +kernel
theorem d_M_enter_37 : decode prog_10_method_15_code 37 = .ok (.return_, 1) := by decide +kernel
def b_M_enter_18 (post : zH → Prop) (l1 : Int32) (h : zH) : Prop := (∀ h1 : zH, h1 = zi h 39 31 ((h.1 39 31) + 1) → wp_M_hold (l1) ((h1.1 39 9)) h1 (fun (h3 : zH) => post h3))
def wp_M_enter (l1 : Int32) (h : zH) (post : zH → Prop) : Prop := ((¬ (h.1 39 31) = 32 → b_M_enter_18 post (l1) h) ∧ ((h.1 39 31) = 32 → wp_M_bad (5) ((h.1 39 9)) h (fun (h5 : zH) => b_M_enter_18 post (l1) h5)))
set_option maxRecDepth 100000 in
set_option maxHeartbeats 4000000 in
theorem w_M_enter_18 {l : Launch} {E : zE} {G : (Nat → Prop) → State → Prop} {p : Program} {e : Env} {s : State} {m : MethodId} {args : Array Value} {below : List Frame} {meth : Method} {c : Code} {A : Nat → Prop} {post : zH → Prop} (hG : xGG E G) (C : zCx p s m args meth c E G A 1 22 prog_10_method_15_code 2 cn_M) (hr : meth.sig.returnType = none)  (l1 : Int32) (h : zH) (hw : b_M_enter_18 post l1 h) : zGo p l e s m args below meth c E A 1 22 2 (zPv post) h 18 [some (.ref (E.2.2.1 39)), some (.int l1)] [] := by
  unfold b_M_enter_18 at hw
  refine z_aload_n C (i := 0) d_M_enter_18 rfl rfl ?_
  refine z_dup C d_M_enter_19 rfl ?_
  refine z_getI C (ci := 8) (j := 31) (F := cf_M) (by decide) rfl rfl in_M (by decide) fl_M_131 rfl d_M_enter_20 ?_
  refine z_iconst C (v := 1) d_M_enter_23 (by decide) ?_
  refine z_iadd C d_M_enter_24 ?_
  refine z_putI C (ci := 8) (j := 31) (F := cf_M) ct_M (by decide) rfl rfl in_M ty_M nm_M (by decide) fl_M_131 rfl (by decide +kernel) rfl d_M_enter_25 (fun h1 eh1 => ?_)
  replace hw := hw h1 eh1
  refine z_aload_n C (i := 0) d_M_enter_28 rfl rfl ?_
  refine z_iload_n C (i := 1) d_M_enter_29 rfl rfl ?_
  refine z_aload_n C (i := 0) d_M_enter_30 rfl rfl ?_
  refine z_getI C (ci := 8) (j := 9) (F := cf_M) (by decide) rfl rfl in_M (by decide) fl_M_93 rfl d_M_enter_31 ?_
  refine z_callVv ⟨xN_ok, hG.1⟩ zT_good C (t_M_hold hG hw) ol_M_134 (by decide) rfl rfl (by decide) (by decide) pl_M_hold rfl rfl (Nat.le_of_ble_eq_true rfl) d_M_enter_34 (fun h3 hw => ?_)
  exact z_vret C hr d_M_enter_37 hw
set_option maxRecDepth 100000 in
set_option maxHeartbeats 4000000 in
theorem t_M_enter {l : Launch} {E : zE} {G : (Nat → Prop) → State → Prop} (hG : xGG E G) {l1 : Int32} {h : zH} {post : zH → Prop} (hw : wp_M_enter l1 h post) : Ct l xX E xcl xN zT G 1 22 y_M_enter prog_10_method_15_code 2 none [.ref (E.2.2.1 39), .int l1] h (zPv post) := by
  unfold wp_M_enter at hw
  refine Ct.of (by decide) (Nat.le_of_ble_eq_true rfl) ?_
  intro p e s m below meth c A C hr
  refine z_lv (lv2 := [some (.ref (E.2.2.1 39)), some (.int l1)]) rfl ?_
  refine z_aload_n C (i := 0) d_M_enter_0 rfl rfl ?_
  refine z_getI C (ci := 8) (j := 31) (F := cf_M) (by decide) rfl rfl in_M (by decide) fl_M_131 rfl d_M_enter_1 ?_
  refine z_bipush C (v := 32) d_M_enter_4 (by decide) ?_
  refine z_icmp_ne C (tgt := 18) d_M_enter_6 (by decide) (fun q => ?_) (fun q => ?_)
  · replace hw := hw.1 q
    refine z_le (lv2 := [some (.ref (E.2.2.1 39)), some (.int l1)]) (⟨rfl, ⟨rfl, trivial⟩⟩) ?_
    exact w_M_enter_18 hG C hr _ _ hw
  · replace hw := hw.2 q
    refine z_aload_n C (i := 0) d_M_enter_9 rfl rfl ?_
    refine z_iconst C (v := 5) d_M_enter_10 (by decide) ?_
    refine z_aload_n C (i := 0) d_M_enter_11 rfl rfl ?_
    refine z_getI C (ci := 8) (j := 9) (F := cf_M) (by decide) rfl rfl in_M (by decide) fl_M_93 rfl d_M_enter_12 ?_
    refine z_callVv ⟨xN_ok, hG.1⟩ zT_good C (t_M_bad hG hw) ol_M_124 (by decide) rfl rfl (by decide) (by decide) pl_M_bad rfl rfl (Nat.le_of_ble_eq_true rfl) d_M_enter_15 (fun h5 hw => ?_)
    refine z_le (lv2 := [some (.ref (E.2.2.1 39)), some (.int l1)]) (⟨rfl, ⟨rfl, trivial⟩⟩) ?_
    exact w_M_enter_18 hG C hr _ _ hw
theorem d_M_isDigit_0 : decode prog_10_method_8_code 0 = .ok (.aload_n 0, 1) := by decide +kernel
theorem d_M_isDigit_1 : decode prog_10_method_8_code 1 = .ok (.iload_n 1, 1) := by decide +kernel
theorem d_M_isDigit_2 : decode prog_10_method_8_code 2 = .ok (.invokevirtual 89, 3) := by decide +kernel
theorem d_M_isDigit_5 : decode prog_10_method_8_code 5 = .ok (.bipush (48), 2) := by decide +kernel
theorem d_M_isDigit_7 : decode prog_10_method_8_code 7 = .ok (.if_icmp .lt (17), 3) := by decide +kernel
theorem d_M_isDigit_10 : decode prog_10_method_8_code 10 = .ok (.aload_n 0, 1) := by decide +kernel
theorem d_M_isDigit_11 : decode prog_10_method_8_code 11 = .ok (.iload_n 1, 1) := by decide +kernel
theorem d_M_isDigit_12 : decode prog_10_method_8_code 12 = .ok (.invokevirtual 89, 3) := by decide +kernel
theorem d_M_isDigit_15 : decode prog_10_method_8_code 15 = .ok (.bipush (57), 2) := by decide +kernel
theorem d_M_isDigit_17 : decode prog_10_method_8_code 17 = .ok (.if_icmp .gt (7), 3) := by decide +kernel
theorem d_M_isDigit_20 : decode prog_10_method_8_code 20 = .ok (.iconst 1, 1) := by decide +kernel
theorem d_M_isDigit_21 : decode prog_10_method_8_code 21 = .ok (.goto (4), 3) := by decide +kernel
theorem d_M_isDigit_24 : decode prog_10_method_8_code 24 = .ok (.iconst 0, 1) := by decide +kernel
theorem d_M_isDigit_25 : decode prog_10_method_8_code 25 = .ok (.ireturn, 1) := by decide +kernel
def b_M_isDigit_25 (post : Int32 → zH → Prop) (s0 : Int32) (h : zH) : Prop := (narrow .boolean (.int s0) = .int s0 ∧ post s0 h)
def b_M_isDigit_24 (post : Int32 → zH → Prop) (h : zH) : Prop := b_M_isDigit_25 post (0) h
def wp_M_isDigit (l1 : Int32) (h : zH) (post : Int32 → zH → Prop) : Prop := wp_M_at (l1) h (fun (r1 : Int32) (h2 : zH) => ((r1 < 48 → b_M_isDigit_24 post  h2) ∧ (¬ r1 < 48 → wp_M_at (l1) h2 (fun (r3 : Int32) (h4 : zH) => ((57 < r3 → b_M_isDigit_24 post  h4) ∧ (¬ 57 < r3 → b_M_isDigit_25 post (1) h4))))))
set_option maxRecDepth 100000 in
set_option maxHeartbeats 4000000 in
theorem w_M_isDigit_25 {l : Launch} {E : zE} {G : (Nat → Prop) → State → Prop} {p : Program} {e : Env} {s : State} {m : MethodId} {args : Array Value} {below : List Frame} {meth : Method} {c : Code} {A : Nat → Prop} {post : Int32 → zH → Prop} (hG : xGG E G) (C : zCx p s m args meth c E G A 1 21 prog_10_method_8_code 2 cn_M) (hr : meth.sig.returnType = (some .boolean))  (s0 : Int32) (h : zH) (hw : b_M_isDigit_25 post s0 h) : zGo p l e s m args below meth c E A 1 21 2 (zPi post) h 25 [none, none] [.int s0] := by
  unfold b_M_isDigit_25 at hw
  exact z_zret C hr hw.1 d_M_isDigit_25 hw.2
set_option maxRecDepth 100000 in
set_option maxHeartbeats 4000000 in
theorem w_M_isDigit_24 {l : Launch} {E : zE} {G : (Nat → Prop) → State → Prop} {p : Program} {e : Env} {s : State} {m : MethodId} {args : Array Value} {below : List Frame} {meth : Method} {c : Code} {A : Nat → Prop} {post : Int32 → zH → Prop} (hG : xGG E G) (C : zCx p s m args meth c E G A 1 21 prog_10_method_8_code 2 cn_M) (hr : meth.sig.returnType = (some .boolean))  (h : zH) (hw : b_M_isDigit_24 post  h) : zGo p l e s m args below meth c E A 1 21 2 (zPi post) h 24 [none, none] [] := by
  unfold b_M_isDigit_24 at hw
  refine z_iconst C (v := 0) d_M_isDigit_24 (by decide) ?_
  refine z_le (lv2 := [none, none]) (trivial) ?_
  exact w_M_isDigit_25 hG C hr _ _ hw
set_option maxRecDepth 100000 in
set_option maxHeartbeats 4000000 in
theorem t_M_isDigit {l : Launch} {E : zE} {G : (Nat → Prop) → State → Prop} (hG : xGG E G) {l1 : Int32} {h : zH} {post : Int32 → zH → Prop} (hw : wp_M_isDigit l1 h post) : Ct l xX E xcl xN zT G 1 21 y_M_isDigit prog_10_method_8_code 2 (some .boolean) [.ref (E.2.2.1 39), .int l1] h (zPi post) := by
  unfold wp_M_isDigit at hw
  refine Ct.of (by decide) (Nat.le_of_ble_eq_true rfl) ?_
  intro p e s m below meth c A C hr
  refine z_lv (lv2 := [some (.ref (E.2.2.1 39)), some (.int l1)]) rfl ?_
  refine z_aload_n C (i := 0) d_M_isDigit_0 rfl rfl ?_
  refine z_iload_n C (i := 1) d_M_isDigit_1 rfl rfl ?_
  refine z_callVi ⟨xN_ok, hG.1⟩ zT_good C (t_M_at hG hw) ol_M_89 (by decide) rfl rfl (by decide) (by decide) pl_M_at rfl rfl (Nat.le_of_ble_eq_true rfl) d_M_isDigit_2 (fun r1 h2 hw => ?_)
  refine z_bipush C (v := 48) d_M_isDigit_5 (by decide) ?_
  refine z_icmp_lt C (tgt := 24) d_M_isDigit_7 (by decide) (fun q => ?_) (fun q => ?_)
  · replace hw := hw.1 q
    refine z_le (lv2 := [none, none]) (trivial) ?_
    exact w_M_isDigit_24 hG C hr  _ hw
  · replace hw := hw.2 q
    refine z_aload_n C (i := 0) d_M_isDigit_10 rfl rfl ?_
    refine z_iload_n C (i := 1) d_M_isDigit_11 rfl rfl ?_
    refine z_callVi ⟨xN_ok, hG.1⟩ zT_good C (t_M_at hG hw) ol_M_89 (by decide) rfl rfl (by decide) (by decide) pl_M_at rfl rfl (Nat.le_of_ble_eq_true rfl) d_M_isDigit_12 (fun r3 h4 hw => ?_)
    refine z_bipush C (v := 57) d_M_isDigit_15 (by decide) ?_
    refine z_icmp_gt C (tgt := 24) d_M_isDigit_17 (by decide) (fun q => ?_) (fun q => ?_)
    · replace hw := hw.1 q
      refine z_le (lv2 := [none, none]) (trivial) ?_
      exact w_M_isDigit_24 hG C hr  _ hw
    · replace hw := hw.2 q
      refine z_iconst C (v := 1) d_M_isDigit_20 (by decide) ?_
      refine z_goto C (tgt := 25) d_M_isDigit_21 (by decide) ?_
      refine z_le (lv2 := [none, none]) (trivial) ?_
      exact w_M_isDigit_25 hG C hr _ _ hw
theorem d_M_stands_0 : decode prog_10_method_9_code 0 = .ok (.aload_n 0, 1) := by decide +kernel
theorem d_M_stands_1 : decode prog_10_method_9_code 1 = .ok (.aload_n 0, 1) := by decide +kernel
theorem d_M_stands_2 : decode prog_10_method_9_code 2 = .ok (.getfield 93, 3) := by decide +kernel
theorem d_M_stands_5 : decode prog_10_method_9_code 5 = .ok (.invokevirtual 89, 3) := by decide +kernel
theorem d_M_stands_8 : decode prog_10_method_9_code 8 = .ok (.iload_n 1, 1) := by decide +kernel
theorem d_M_stands_9 : decode prog_10_method_9_code 9 = .ok (.if_icmp .ne (35), 3) := by decide +kernel
theorem d_M_stands_12 : decode prog_10_method_9_code 12 = .ok (.aload_n 0, 1) := by decide +kernel
theorem d_M_stands_13 : decode prog_10_method_9_code 13 = .ok (.aload_n 0, 1) := by decide +kernel
theorem d_M_stands_14 : decode prog_10_method_9_code 14 = .ok (.getfield 93, 3) := by decide +kernel
theorem d_M_stands_17 : decode prog_10_method_9_code 17 = .ok (.iconst 1, 1) := by decide +kernel
theorem d_M_stands_18 : decode prog_10_method_9_code 18 = .ok (.iadd, 1) := by decide +kernel
theorem d_M_stands_19 : decode prog_10_method_9_code 19 = .ok (.invokevirtual 89, 3) := by decide +kernel
theorem d_M_stands_22 : decode prog_10_method_9_code 22 = .ok (.iload_n 2, 1) := by decide +kernel
theorem d_M_stands_23 : decode prog_10_method_9_code 23 = .ok (.if_icmp .ne (21), 3) := by decide +kernel
theorem d_M_stands_26 : decode prog_10_method_9_code 26 = .ok (.aload_n 0, 1) := by decide +kernel
theorem d_M_stands_27 : decode prog_10_method_9_code 27 = .ok (.aload_n 0, 1) := by decide +kernel
theorem d_M_stands_28 : decode prog_10_method_9_code 28 = .ok (.getfield 93, 3) := by decide +kernel
theorem d_M_stands_31 : decode prog_10_method_9_code 31 = .ok (.iconst 2, 1) := by decide +kernel
theorem d_M_stands_32 : decode prog_10_method_9_code 32 = .ok (.iadd, 1) := by decide +kernel
theorem d_M_stands_33 : decode prog_10_method_9_code 33 = .ok (.invokevirtual 89, 3) := by decide +kernel
theorem d_M_stands_36 : decode prog_10_method_9_code 36 = .ok (.iload_n 3, 1) := by decide +kernel
theorem d_M_stands_37 : decode prog_10_method_9_code 37 = .ok (.if_icmp .ne (7), 3) := by decide +kernel
theorem d_M_stands_40 : decode prog_10_method_9_code 40 = .ok (.iconst 1, 1) := by decide +kernel
theorem d_M_stands_41 : decode prog_10_method_9_code 41 = .ok (.goto (4), 3) := by decide +kernel
theorem d_M_stands_44 : decode prog_10_method_9_code 44 = .ok (.iconst 0, 1) := by decide +kernel
theorem d_M_stands_45 : decode prog_10_method_9_code 45 = .ok (.ireturn, 1) := by decide +kernel
def b_M_stands_45 (post : Int32 → zH → Prop) (s0 : Int32) (h : zH) : Prop := (narrow .boolean (.int s0) = .int s0 ∧ post s0 h)
def b_M_stands_44 (post : Int32 → zH → Prop) (h : zH) : Prop := b_M_stands_45 post (0) h
def wp_M_stands (l1 : Int32) (l2 : Int32) (l3 : Int32) (h : zH) (post : Int32 → zH → Prop) : Prop := wp_M_at ((h.1 39 9)) h (fun (r1 : Int32) (h2 : zH) => ((¬ r1 = l1 → b_M_stands_44 post  h2) ∧ (r1 = l1 → wp_M_at (((h2.1 39 9) + 1)) h2 (fun (r3 : Int32) (h4 : zH) => ((¬ r3 = l2 → b_M_stands_44 post  h4) ∧ (r3 = l2 → wp_M_at (((h4.1 39 9) + 2)) h4 (fun (r5 : Int32) (h6 : zH) => ((¬ r5 = l3 → b_M_stands_44 post  h6) ∧ (r5 = l3 → b_M_stands_45 post (1) h6)))))))))
set_option maxRecDepth 100000 in
set_option maxHeartbeats 4000000 in
theorem w_M_stands_45 {l : Launch} {E : zE} {G : (Nat → Prop) → State → Prop} {p : Program} {e : Env} {s : State} {m : MethodId} {args : Array Value} {below : List Frame} {meth : Method} {c : Code} {A : Nat → Prop} {post : Int32 → zH → Prop} (hG : xGG E G) (C : zCx p s m args meth c E G A 1 21 prog_10_method_9_code 4 cn_M) (hr : meth.sig.returnType = (some .boolean))  (s0 : Int32) (h : zH) (hw : b_M_stands_45 post s0 h) : zGo p l e s m args below meth c E A 1 21 4 (zPi post) h 45 [none, none, none, none] [.int s0] := by
  unfold b_M_stands_45 at hw
  exact z_zret C hr hw.1 d_M_stands_45 hw.2
set_option maxRecDepth 100000 in
set_option maxHeartbeats 4000000 in
theorem w_M_stands_44 {l : Launch} {E : zE} {G : (Nat → Prop) → State → Prop} {p : Program} {e : Env} {s : State} {m : MethodId} {args : Array Value} {below : List Frame} {meth : Method} {c : Code} {A : Nat → Prop} {post : Int32 → zH → Prop} (hG : xGG E G) (C : zCx p s m args meth c E G A 1 21 prog_10_method_9_code 4 cn_M) (hr : meth.sig.returnType = (some .boolean))  (h : zH) (hw : b_M_stands_44 post  h) : zGo p l e s m args below meth c E A 1 21 4 (zPi post) h 44 [none, none, none, none] [] := by
  unfold b_M_stands_44 at hw
  refine z_iconst C (v := 0) d_M_stands_44 (by decide) ?_
  refine z_le (lv2 := [none, none, none, none]) (trivial) ?_
  exact w_M_stands_45 hG C hr _ _ hw
set_option maxRecDepth 100000 in
set_option maxHeartbeats 4000000 in
theorem t_M_stands {l : Launch} {E : zE} {G : (Nat → Prop) → State → Prop} (hG : xGG E G) {l1 : Int32} {l2 : Int32} {l3 : Int32} {h : zH} {post : Int32 → zH → Prop} (hw : wp_M_stands l1 l2 l3 h post) : Ct l xX E xcl xN zT G 1 21 y_M_stands prog_10_method_9_code 4 (some .boolean) [.ref (E.2.2.1 39), .int l1, .int l2, .int l3] h (zPi post) := by
  unfold wp_M_stands at hw
  refine Ct.of (by decide) (Nat.le_of_ble_eq_true rfl) ?_
  intro p e s m below meth c A C hr
  refine z_lv (lv2 := [some (.ref (E.2.2.1 39)), some (.int l1), some (.int l2), some (.int l3)]) rfl ?_
  refine z_aload_n C (i := 0) d_M_stands_0 rfl rfl ?_
  refine z_aload_n C (i := 0) d_M_stands_1 rfl rfl ?_
  refine z_getI C (ci := 8) (j := 9) (F := cf_M) (by decide) rfl rfl in_M (by decide) fl_M_93 rfl d_M_stands_2 ?_
  refine z_callVi ⟨xN_ok, hG.1⟩ zT_good C (t_M_at hG hw) ol_M_89 (by decide) rfl rfl (by decide) (by decide) pl_M_at rfl rfl (Nat.le_of_ble_eq_true rfl) d_M_stands_5 (fun r1 h2 hw => ?_)
  refine z_iload_n C (i := 1) d_M_stands_8 rfl rfl ?_
  refine z_icmp_ne C (tgt := 44) d_M_stands_9 (by decide) (fun q => ?_) (fun q => ?_)
  · replace hw := hw.1 q
    refine z_le (lv2 := [none, none, none, none]) (trivial) ?_
    exact w_M_stands_44 hG C hr  _ hw
  · replace hw := hw.2 q
    refine z_aload_n C (i := 0) d_M_stands_12 rfl rfl ?_
    refine z_aload_n C (i := 0) d_M_stands_13 rfl rfl ?_
    refine z_getI C (ci := 8) (j := 9) (F := cf_M) (by decide) rfl rfl in_M (by decide) fl_M_93 rfl d_M_stands_14 ?_
    refine z_iconst C (v := 1) d_M_stands_17 (by decide) ?_
    refine z_iadd C d_M_stands_18 ?_
    refine z_callVi ⟨xN_ok, hG.1⟩ zT_good C (t_M_at hG hw) ol_M_89 (by decide) rfl rfl (by decide) (by decide) pl_M_at rfl rfl (Nat.le_of_ble_eq_true rfl) d_M_stands_19 (fun r3 h4 hw => ?_)
    refine z_iload_n C (i := 2) d_M_stands_22 rfl rfl ?_
    refine z_icmp_ne C (tgt := 44) d_M_stands_23 (by decide) (fun q => ?_) (fun q => ?_)
    · replace hw := hw.1 q
      refine z_le (lv2 := [none, none, none, none]) (trivial) ?_
      exact w_M_stands_44 hG C hr  _ hw
    · replace hw := hw.2 q
      refine z_aload_n C (i := 0) d_M_stands_26 rfl rfl ?_
      refine z_aload_n C (i := 0) d_M_stands_27 rfl rfl ?_
      refine z_getI C (ci := 8) (j := 9) (F := cf_M) (by decide) rfl rfl in_M (by decide) fl_M_93 rfl d_M_stands_28 ?_
      refine z_iconst C (v := 2) d_M_stands_31 (by decide) ?_
      refine z_iadd C d_M_stands_32 ?_
      refine z_callVi ⟨xN_ok, hG.1⟩ zT_good C (t_M_at hG hw) ol_M_89 (by decide) rfl rfl (by decide) (by decide) pl_M_at rfl rfl (Nat.le_of_ble_eq_true rfl) d_M_stands_33 (fun r5 h6 hw => ?_)
      refine z_iload_n C (i := 3) d_M_stands_36 rfl rfl ?_
      refine z_icmp_ne C (tgt := 44) d_M_stands_37 (by decide) (fun q => ?_) (fun q => ?_)
      · replace hw := hw.1 q
        refine z_le (lv2 := [none, none, none, none]) (trivial) ?_
        exact w_M_stands_44 hG C hr  _ hw
      · replace hw := hw.2 q
        refine z_iconst C (v := 1) d_M_stands_40 (by decide) ?_
        refine z_goto C (tgt := 45) d_M_stands_41 (by decide) ?_
        refine z_le (lv2 := [none, none, none, none]) (trivial) ?_
        exact w_M_stands_45 hG C hr _ _ hw
theorem d_M_next_0 : decode prog_10_method_10_code 0 = .ok (.aload_n 0, 1) := by decide +kernel
theorem d_M_next_1 : decode prog_10_method_10_code 1 = .ok (.aload_n 0, 1) := by decide +kernel
theorem d_M_next_2 : decode prog_10_method_10_code 2 = .ok (.getfield 96, 3) := by decide +kernel
theorem d_M_next_5 : decode prog_10_method_10_code 5 = .ok (.putfield 93, 3) := by decide +kernel
theorem d_M_next_8 : decode prog_10_method_10_code 8 = .ok (.aload_n 0, 1) := by decide +kernel
theorem d_M_next_9 : decode prog_10_method_10_code 9 = .ok (.aload_n 0, 1) := by decide +kernel
theorem d_M_next_10 : decode prog_10_method_10_code 10 = .ok (.getfield 93, 3) := by decide +kernel
theorem d_M_next_13 : decode prog_10_method_10_code 13 = .ok (.invokevirtual 89, 3) := by decide +kernel
theorem d_M_next_16 : decode prog_10_method_10_code 16 = .ok (.bipush (32), 2) := by decide +kernel
theorem d_M_next_18 : decode prog_10_method_10_code 18 = .ok (.if_icmp .ne (16), 3) := by decide +kernel
theorem d_M_next_21 : decode prog_10_method_10_code 21 = .ok (.aload_n 0, 1) := by decide +kernel
theorem d_M_next_22 : decode prog_10_method_10_code 22 = .ok (.dup, 1) := by decide +kernel
theorem d_M_next_23 : decode prog_10_method_10_code 23 = .ok (.getfield 93, 3) := by decide +kernel
theorem d_M_next_26 : decode prog_10_method_10_code 26 = .ok (.iconst 1, 1) := by decide +kernel
theorem d_M_next_27 : decode prog_10_method_10_code 27 = .ok (.iadd, 1) := by decide +kernel
theorem d_M_next_28 : decode prog_10_method_10_code 28 = .ok (.putfield 93, 3) := by decide +kernel
theorem d_M_next_31 : decode prog_10_method_10_code 31 = .ok (.goto (-23), 3) := by decide +kernel
theorem d_M_next_34 : decode prog_10_method_10_code 34 = .ok (.aload_n 0, 1) := by decide +kernel
theorem d_M_next_35 : decode prog_10_method_10_code 35 = .ok (.aload_n 0, 1) := by decide +kernel
theorem d_M_next_36 : decode prog_10_method_10_code 36 = .ok (.getfield 93, 3) := by decide +kernel
theorem d_M_next_39 : decode prog_10_method_10_code 39 = .ok (.invokevirtual 89, 3) := by decide +kernel
theorem d_M_next_42 : decode prog_10_method_10_code 42 = .ok (.istore_n 1, 1) := by decide +kernel
theorem d_M_next_43 : decode prog_10_method_10_code 43 = .ok (.aload_n 0, 1) := by decide +kernel
theorem d_M_next_44 : decode prog_10_method_10_code 44 = .ok (.aload_n 0, 1) := by decide +kernel
theorem d_M_next_45 : decode prog_10_method_10_code 45 = .ok (.getfield 93, 3) := by decide +kernel
theorem d_M_next_48 : decode prog_10_method_10_code 48 = .ok (.iconst 1, 1) := by decide +kernel
theorem d_M_next_49 : decode prog_10_method_10_code 49 = .ok (.iadd, 1) := by decide +kernel
theorem d_M_next_50 : decode prog_10_method_10_code 50 = .ok (.invokevirtual 89, 3) := by decide +kernel
theorem d_M_next_53 : decode prog_10_method_10_code 53 = .ok (.istore_n 2, 1) := by decide +kernel
theorem d_M_next_54 : decode prog_10_method_10_code 54 = .ok (.aload_n 0, 1) := by decide +kernel
theorem d_M_next_55 : decode prog_10_method_10_code 55 = .ok (.aload_n 0, 1) := by decide +kernel
theorem d_M_next_56 : decode prog_10_method_10_code 56 = .ok (.getfield 93, 3) := by decide +kernel
theorem d_M_next_59 : decode prog_10_method_10_code 59 = .ok (.iconst 1, 1) := by decide +kernel
theorem d_M_next_60 : decode prog_10_method_10_code 60 = .ok (.iadd, 1) := by decide +kernel
theorem d_M_next_61 : decode prog_10_method_10_code 61 = .ok (.putfield 96, 3) := by decide +kernel
theorem d_M_next_64 : decode prog_10_method_10_code 64 = .ok (.aload_n 0, 1) := by decide +kernel
theorem d_M_next_65 : decode prog_10_method_10_code 65 = .ok (.lconst 0, 1) := by decide +kernel
theorem d_M_next_66 : decode prog_10_method_10_code 66 = .ok (.putfield 99, 3) := by decide +kernel
theorem d_M_next_69 : decode prog_10_method_10_code 69 = .ok (.aload_n 0, 1) := by decide +kernel
theorem d_M_next_70 : decode prog_10_method_10_code 70 = .ok (.getfield 93, 3) := by decide +kernel
theorem d_M_next_73 : decode prog_10_method_10_code 73 = .ok (.aload_n 0, 1) := by decide +kernel
theorem d_M_next_74 : decode prog_10_method_10_code 74 = .ok (.getfield 86, 3) := by decide +kernel
theorem d_M_next_77 : decode prog_10_method_10_code 77 = .ok (.if_icmp .lt (19), 3) := by decide +kernel
theorem d_M_next_80 : decode prog_10_method_10_code 80 = .ok (.aload_n 0, 1) := by decide +kernel
theorem d_M_next_81 : decode prog_10_method_10_code 81 = .ok (.iconst 1, 1) := by decide +kernel
theorem d_M_next_82 : decode prog_10_method_10_code 82 = .ok (.putfield 103, 3) := by decide +kernel
theorem d_M_next_85 : decode prog_10_method_10_code 85 = .ok (.aload_n 0, 1) := by decide +kernel
theorem d_M_next_86 : decode prog_10_method_10_code 86 = .ok (.aload_n 0, 1) := by decide +kernel
theorem d_M_next_87 : decode prog_10_method_10_code 87 = .ok (.getfield 93, 3) := by decide +kernel
theorem d_M_next_90 : decode prog_10_method_10_code 90 = .ok (.putfield 96, 3) := by decide +kernel
theorem d_M_next_93 : decode prog_10_method_10_code 93 = .ok (.goto (555), 3) := by decide +kernel
theorem d_M_next_96 : decode prog_10_method_10_code 96 = .ok (.aload_n 0, 1) := by decide +kernel
theorem d_M_next_97 : decode prog_10_method_10_code 97 = .ok (.aload_n 0, 1) := by decide +kernel
theorem d_M_next_98 : decode prog_10_method_10_code 98 = .ok (.getfield 93, 3) := by decide +kernel
theorem d_M_next_101 : decode prog_10_method_10_code 101 = .ok (.invokevirtual 106, 3) := by decide +kernel
theorem d_M_next_104 : decode prog_10_method_10_code 104 = .ok (.ifCond .eq (113), 3) := by decide +kernel
theorem d_M_next_107 : decode prog_10_method_10_code 107 = .ok (.aload_n 0, 1) := by decide +kernel
theorem d_M_next_108 : decode prog_10_method_10_code 108 = .ok (.aload_n 0, 1) := by decide +kernel
theorem d_M_next_109 : decode prog_10_method_10_code 109 = .ok (.getfield 93, 3) := by decide +kernel
theorem d_M_next_112 : decode prog_10_method_10_code 112 = .ok (.putfield 96, 3) := by decide +kernel
theorem d_M_next_115 : decode prog_10_method_10_code 115 = .ok (.aload_n 0, 1) := by decide +kernel
theorem d_M_next_116 : decode prog_10_method_10_code 116 = .ok (.aload_n 0, 1) := by decide +kernel
theorem d_M_next_117 : decode prog_10_method_10_code 117 = .ok (.getfield 96, 3) := by decide +kernel
theorem d_M_next_120 : decode prog_10_method_10_code 120 = .ok (.invokevirtual 106, 3) := by decide +kernel
theorem d_M_next_123 : decode prog_10_method_10_code 123 = .ok (.ifCond .eq (56), 3) := by decide +kernel
theorem d_M_next_126 : decode prog_10_method_10_code 126 = .ok (.aload_n 0, 1) := by decide +kernel
theorem d_M_next_127 : decode prog_10_method_10_code 127 = .ok (.getfield 96, 3) := by decide +kernel
theorem d_M_next_130 : decode prog_10_method_10_code 130 = .ok (.aload_n 0, 1) := by decide +kernel
theorem d_M_next_131 : decode prog_10_method_10_code 131 = .ok (.getfield 93, 3) := by decide +kernel
theorem d_M_next_134 : decode prog_10_method_10_code 134 = .ok (.isub, 1) := by decide +kernel
theorem d_M_next_135 : decode prog_10_method_10_code 135 = .ok (.bipush (11), 2) := by decide +kernel
theorem d_M_next_137 : decode prog_10_method_10_code 137 = .ok (.if_icmp .ge (29), 3) := by decide +kernel
theorem d_M_next_140 : decode prog_10_method_10_code 140 = .ok (.aload_n 0, 1) := by decide +kernel
theorem d_M_next_141 : decode prog_10_method_10_code 141 = .ok (.ldc2_w 110, 3) := by decide +kernel
theorem d_M_next_144 : decode prog_10_method_10_code 144 = .ok (.aload_n 0, 1) := by decide +kernel
theorem d_M_next_145 : decode prog_10_method_10_code 145 = .ok (.getfield 99, 3) := by decide +kernel
theorem d_M_next_148 : decode prog_10_method_10_code 148 = .ok (.lmul, 1) := by decide +kernel
theorem d_M_next_149 : decode prog_10_method_10_code 149 = .ok (.aload_n 0, 1) := by decide +kernel
theorem d_M_next_150 : decode prog_10_method_10_code 150 = .ok (.aload_n 0, 1) := by decide +kernel
theorem d_M_next_151 : decode prog_10_method_10_code 151 = .ok (.getfield 96, 3) := by decide +kernel
theorem d_M_next_154 : decode prog_10_method_10_code 154 = .ok (.invokevirtual 89, 3) := by decide +kernel
theorem d_M_next_157 : decode prog_10_method_10_code 157 = .ok (.i2l, 1) := by decide +kernel
theorem d_M_next_158 : decode prog_10_method_10_code 158 = .ok (.ladd, 1) := by decide +kernel
theorem d_M_next_159 : decode prog_10_method_10_code 159 = .ok (.ldc2_w 112, 3) := by decide +kernel
theorem d_M_next_162 : decode prog_10_method_10_code 162 = .ok (.lsub, 1) := by decide +kernel
theorem d_M_next_163 : decode prog_10_method_10_code 163 = .ok (.putfield 99, 3) := by decide +kernel
theorem d_M_next_166 : decode prog_10_method_10_code 166 = .ok (.aload_n 0, 1) := by decide +kernel
theorem d_M_next_167 : decode prog_10_method_10_code 167 = .ok (.dup, 1) := by decide +kernel
theorem d_M_next_168 : decode prog_10_method_10_code 168 = .ok (.getfield 96, 3) := by decide +kernel
theorem d_M_next_171 : decode prog_10_method_10_code 171 = .ok (.iconst 1, 1) := by decide +kernel
theorem d_M_next_172 : decode prog_10_method_10_code 172 = .ok (.iadd, 1) := by decide +kernel
theorem d_M_next_173 : decode prog_10_method_10_code 173 = .ok (.putfield 96, 3) := by decide +kernel
theorem d_M_next_176 : decode prog_10_method_10_code 176 = .ok (.goto (-61), 3) := by decide +kernel
theorem d_M_next_179 : decode prog_10_method_10_code 179 = .ok (.aload_n 0, 1) := by decide +kernel
theorem d_M_next_180 : decode prog_10_method_10_code 180 = .ok (.aload_n 0, 1) := by decide +kernel
theorem d_M_next_181 : decode prog_10_method_10_code 181 = .ok (.getfield 96, 3) := by decide +kernel
theorem d_M_next_184 : decode prog_10_method_10_code 184 = .ok (.aload_n 0, 1) := by decide +kernel
theorem d_M_next_185 : decode prog_10_method_10_code 185 = .ok (.getfield 93, 3) := by decide +kernel
theorem d_M_next_188 : decode prog_10_method_10_code 188 = .ok (.isub, 1) := by decide +kernel
theorem d_M_next_189 : decode prog_10_method_10_code 189 = .ok (.bipush (10), 2) := by decide +kernel
theorem d_M_next_191 : decode prog_10_method_10_code 191 = .ok (.if_icmp .gt (14), 3) := by decide +kernel
theorem d_M_next_194 : decode prog_10_method_10_code 194 = .ok (.aload_n 0, 1) := by decide +kernel
theorem d_M_next_195 : decode prog_10_method_10_code 195 = .ok (.getfield 99, 3) := by decide +kernel
theorem d_M_next_198 : decode prog_10_method_10_code 198 = .ok (.ldc2_w 77, 3) := by decide +kernel
theorem d_M_next_201 : decode prog_10_method_10_code 201 = .ok (.lcmp, 1) := by decide +kernel
theorem d_M_next_202 : decode prog_10_method_10_code 202 = .ok (.ifCond .le (8), 3) := by decide +kernel
theorem d_M_next_205 : decode prog_10_method_10_code 205 = .ok (.bipush (7), 2) := by decide +kernel
theorem d_M_next_207 : decode prog_10_method_10_code 207 = .ok (.goto (4), 3) := by decide +kernel
theorem d_M_next_210 : decode prog_10_method_10_code 210 = .ok (.iconst 2, 1) := by decide +kernel
theorem d_M_next_211 : decode prog_10_method_10_code 211 = .ok (.putfield 103, 3) := by decide +kernel
theorem d_M_next_214 : decode prog_10_method_10_code 214 = .ok (.goto (434), 3) := by decide +kernel
theorem d_M_next_217 : decode prog_10_method_10_code 217 = .ok (.iload_n 1, 1) := by decide +kernel
theorem d_M_next_218 : decode prog_10_method_10_code 218 = .ok (.bipush (118), 2) := by decide +kernel
theorem d_M_next_220 : decode prog_10_method_10_code 220 = .ok (.if_icmp .ne (118), 3) := by decide +kernel
theorem d_M_next_223 : decode prog_10_method_10_code 223 = .ok (.aload_n 0, 1) := by decide +kernel
theorem d_M_next_224 : decode prog_10_method_10_code 224 = .ok (.aload_n 0, 1) := by decide +kernel
theorem d_M_next_225 : decode prog_10_method_10_code 225 = .ok (.getfield 93, 3) := by decide +kernel
theorem d_M_next_228 : decode prog_10_method_10_code 228 = .ok (.iconst 1, 1) := by decide +kernel
theorem d_M_next_229 : decode prog_10_method_10_code 229 = .ok (.iadd, 1) := by decide +kernel
theorem d_M_next_230 : decode prog_10_method_10_code 230 = .ok (.invokevirtual 106, 3) := by decide +kernel
theorem d_M_next_233 : decode prog_10_method_10_code 233 = .ok (.ifCond .eq (105), 3) := by decide +kernel
theorem d_M_next_236 : decode prog_10_method_10_code 236 = .ok (.aload_n 0, 1) := by decide +kernel
theorem d_M_next_237 : decode prog_10_method_10_code 237 = .ok (.aload_n 0, 1) := by decide +kernel
theorem d_M_next_238 : decode prog_10_method_10_code 238 = .ok (.aload_n 0, 1) := by decide +kernel
theorem d_M_next_239 : decode prog_10_method_10_code 239 = .ok (.getfield 93, 3) := by decide +kernel
theorem d_M_next_242 : decode prog_10_method_10_code 242 = .ok (.iconst 2, 1) := by decide +kernel
theorem d_M_next_243 : decode prog_10_method_10_code 243 = .ok (.iadd, 1) := by decide +kernel
theorem d_M_next_244 : decode prog_10_method_10_code 244 = .ok (.invokevirtual 106, 3) := by decide +kernel
theorem d_M_next_247 : decode prog_10_method_10_code 247 = .ok (.ifCond .eq (12), 3) := by decide +kernel
theorem d_M_next_250 : decode prog_10_method_10_code 250 = .ok (.aload_n 0, 1) := by decide +kernel
theorem d_M_next_251 : decode prog_10_method_10_code 251 = .ok (.getfield 93, 3) := by decide +kernel
theorem d_M_next_254 : decode prog_10_method_10_code 254 = .ok (.iconst 3, 1) := by decide +kernel
theorem d_M_next_255 : decode prog_10_method_10_code 255 = .ok (.iadd, 1) := by decide +kernel
theorem d_M_next_256 : decode prog_10_method_10_code 256 = .ok (.goto (9), 3) := by decide +kernel
theorem d_M_next_259 : decode prog_10_method_10_code 259 = .ok (.aload_n 0, 1) := by decide +kernel
theorem d_M_next_260 : decode prog_10_method_10_code 260 = .ok (.getfield 93, 3) := by decide +kernel
theorem d_M_next_263 : decode prog_10_method_10_code 263 = .ok (.iconst 2, 1) := by decide +kernel
theorem d_M_next_264 : decode prog_10_method_10_code 264 = .ok (.iadd, 1) := by decide +kernel
theorem d_M_next_265 : decode prog_10_method_10_code 265 = .ok (.putfield 96, 3) := by decide +kernel
theorem d_M_next_268 : decode prog_10_method_10_code 268 = .ok (.aload_n 0, 1) := by decide +kernel
theorem d_M_next_269 : decode prog_10_method_10_code 269 = .ok (.getfield 93, 3) := by decide +kernel
theorem d_M_next_272 : decode prog_10_method_10_code 272 = .ok (.iconst 1, 1) := by decide +kernel
theorem d_M_next_273 : decode prog_10_method_10_code 273 = .ok (.iadd, 1) := by decide +kernel
theorem d_M_next_274 : decode prog_10_method_10_code 274 = .ok (.istore_n 3, 1) := by decide +kernel
theorem d_M_next_275 : decode prog_10_method_10_code 275 = .ok (.iload_n 3, 1) := by decide +kernel
theorem d_M_next_276 : decode prog_10_method_10_code 276 = .ok (.aload_n 0, 1) := by decide +kernel
theorem d_M_next_277 : decode prog_10_method_10_code 277 = .ok (.getfield 96, 3) := by decide +kernel
theorem d_M_next_280 : decode prog_10_method_10_code 280 = .ok (.if_icmp .ge (32), 3) := by decide +kernel
theorem d_M_next_283 : decode prog_10_method_10_code 283 = .ok (.aload_n 0, 1) := by decide +kernel
theorem d_M_next_284 : decode prog_10_method_10_code 284 = .ok (.ldc2_w 110, 3) := by decide +kernel
theorem d_M_next_287 : decode prog_10_method_10_code 287 = .ok (.aload_n 0, 1) := by decide +kernel
theorem d_M_next_288 : decode prog_10_method_10_code 288 = .ok (.getfield 99, 3) := by decide +kernel
theorem d_M_next_291 : decode prog_10_method_10_code 291 = .ok (.lmul, 1) := by decide +kernel
theorem d_M_next_292 : decode prog_10_method_10_code 292 = .ok (.aload_n 0, 1) := by decide +kernel
theorem d_M_next_293 : decode prog_10_method_10_code 293 = .ok (.iload_n 3, 1) := by decide +kernel
theorem d_M_next_294 : decode prog_10_method_10_code 294 = .ok (.invokevirtual 89, 3) := by decide +kernel
theorem d_M_next_297 : decode prog_10_method_10_code 297 = .ok (.i2l, 1) := by decide +kernel
theorem d_M_next_298 : decode prog_10_method_10_code 298 = .ok (.ladd, 1) := by decide +kernel
theorem d_M_next_299 : decode prog_10_method_10_code 299 = .ok (.ldc2_w 112, 3) := by decide +kernel
theorem d_M_next_302 : decode prog_10_method_10_code 302 = .ok (.lsub, 1) := by decide +kernel
theorem d_M_next_303 : decode prog_10_method_10_code 303 = .ok (.putfield 99, 3) := by decide +kernel
theorem d_M_next_306 : decode prog_10_method_10_code 306 = .ok (.iinc 3 (1), 3) := by decide +kernel
theorem d_M_next_309 : decode prog_10_method_10_code 309 = .ok (.goto (-34), 3) := by decide +kernel
theorem d_M_next_312 : decode prog_10_method_10_code 312 = .ok (.aload_n 0, 1) := by decide +kernel
theorem d_M_next_313 : decode prog_10_method_10_code 313 = .ok (.aload_n 0, 1) := by decide +kernel
theorem d_M_next_314 : decode prog_10_method_10_code 314 = .ok (.getfield 99, 3) := by decide +kernel
theorem d_M_next_317 : decode prog_10_method_10_code 317 = .ok (.aload_n 0, 1) := by decide +kernel
theorem d_M_next_318 : decode prog_10_method_10_code 318 = .ok (.getfield 72, 3) := by decide +kernel
theorem d_M_next_321 : decode prog_10_method_10_code 321 = .ok (.i2l, 1) := by decide +kernel
theorem d_M_next_322 : decode prog_10_method_10_code 322 = .ok (.lcmp, 1) := by decide +kernel
theorem d_M_next_323 : decode prog_10_method_10_code 323 = .ok (.ifCond .ge (7), 3) := by decide +kernel
theorem d_M_next_326 : decode prog_10_method_10_code 326 = .ok (.iconst 3, 1) := by decide +kernel
theorem d_M_next_327 : decode prog_10_method_10_code 327 = .ok (.goto (5), 3) := by decide +kernel
theorem d_M_next_330 : decode prog_10_method_10_code 330 = .ok (.bipush (7), 2) := by decide +kernel
theorem d_M_next_332 : decode prog_10_method_10_code 332 = .ok (.putfield 103, 3) := by decide +kernel
theorem d_M_next_335 : decode prog_10_method_10_code 335 = .ok (.goto (313), 3) := by decide +kernel
theorem d_M_next_338 : decode prog_10_method_10_code 338 = .ok (.aload_n 0, 1) := by decide +kernel
theorem d_M_next_339 : decode prog_10_method_10_code 339 = .ok (.bipush (109), 2) := by decide +kernel
theorem d_M_next_341 : decode prog_10_method_10_code 341 = .ok (.bipush (105), 2) := by decide +kernel
theorem d_M_next_343 : decode prog_10_method_10_code 343 = .ok (.bipush (110), 2) := by decide +kernel
theorem d_M_next_345 : decode prog_10_method_10_code 345 = .ok (.invokevirtual 114, 3) := by decide +kernel
theorem d_M_next_348 : decode prog_10_method_10_code 348 = .ok (.ifCond .ne (29), 3) := by decide +kernel
theorem d_M_next_351 : decode prog_10_method_10_code 351 = .ok (.aload_n 0, 1) := by decide +kernel
theorem d_M_next_352 : decode prog_10_method_10_code 352 = .ok (.bipush (109), 2) := by decide +kernel
theorem d_M_next_354 : decode prog_10_method_10_code 354 = .ok (.bipush (97), 2) := by decide +kernel
theorem d_M_next_356 : decode prog_10_method_10_code 356 = .ok (.bipush (120), 2) := by decide +kernel
theorem d_M_next_358 : decode prog_10_method_10_code 358 = .ok (.invokevirtual 114, 3) := by decide +kernel
theorem d_M_next_361 : decode prog_10_method_10_code 361 = .ok (.ifCond .ne (16), 3) := by decide +kernel
theorem d_M_next_364 : decode prog_10_method_10_code 364 = .ok (.aload_n 0, 1) := by decide +kernel
theorem d_M_next_365 : decode prog_10_method_10_code 365 = .ok (.bipush (97), 2) := by decide +kernel
theorem d_M_next_367 : decode prog_10_method_10_code 367 = .ok (.bipush (98), 2) := by decide +kernel
theorem d_M_next_369 : decode prog_10_method_10_code 369 = .ok (.bipush (115), 2) := by decide +kernel
theorem d_M_next_371 : decode prog_10_method_10_code 371 = .ok (.invokevirtual 114, 3) := by decide +kernel
theorem d_M_next_374 : decode prog_10_method_10_code 374 = .ok (.ifCond .eq (42), 3) := by decide +kernel
theorem d_M_next_377 : decode prog_10_method_10_code 377 = .ok (.aload_n 0, 1) := by decide +kernel
theorem d_M_next_378 : decode prog_10_method_10_code 378 = .ok (.iload_n 1, 1) := by decide +kernel
theorem d_M_next_379 : decode prog_10_method_10_code 379 = .ok (.bipush (97), 2) := by decide +kernel
theorem d_M_next_381 : decode prog_10_method_10_code 381 = .ok (.if_icmp .ne (8), 3) := by decide +kernel
theorem d_M_next_384 : decode prog_10_method_10_code 384 = .ok (.bipush (6), 2) := by decide +kernel
theorem d_M_next_386 : decode prog_10_method_10_code 386 = .ok (.goto (14), 3) := by decide +kernel
theorem d_M_next_389 : decode prog_10_method_10_code 389 = .ok (.iload_n 2, 1) := by decide +kernel
theorem d_M_next_390 : decode prog_10_method_10_code 390 = .ok (.bipush (105), 2) := by decide +kernel
theorem d_M_next_392 : decode prog_10_method_10_code 392 = .ok (.if_icmp .ne (7), 3) := by decide +kernel
theorem d_M_next_395 : decode prog_10_method_10_code 395 = .ok (.iconst 4, 1) := by decide +kernel
theorem d_M_next_396 : decode prog_10_method_10_code 396 = .ok (.goto (4), 3) := by decide +kernel
theorem d_M_next_399 : decode prog_10_method_10_code 399 = .ok (.iconst 5, 1) := by decide +kernel
theorem d_M_next_400 : decode prog_10_method_10_code 400 = .ok (.putfield 103, 3) := by decide +kernel
theorem d_M_next_403 : decode prog_10_method_10_code 403 = .ok (.aload_n 0, 1) := by decide +kernel
theorem d_M_next_404 : decode prog_10_method_10_code 404 = .ok (.aload_n 0, 1) := by decide +kernel
theorem d_M_next_405 : decode prog_10_method_10_code 405 = .ok (.getfield 93, 3) := by decide +kernel
theorem d_M_next_408 : decode prog_10_method_10_code 408 = .ok (.iconst 3, 1) := by decide +kernel
theorem d_M_next_409 : decode prog_10_method_10_code 409 = .ok (.iadd, 1) := by decide +kernel
theorem d_M_next_410 : decode prog_10_method_10_code 410 = .ok (.putfield 96, 3) := by decide +kernel
theorem d_M_next_413 : decode prog_10_method_10_code 413 = .ok (.goto (235), 3) := by decide +kernel
theorem d_M_next_416 : decode prog_10_method_10_code 416 = .ok (.aload_n 0, 1) := by decide +kernel
theorem d_M_next_417 : decode prog_10_method_10_code 417 = .ok (.iload_n 1, 1) := by decide +kernel
theorem d_M_next_418 : decode prog_10_method_10_code 418 = .ok (.bipush (60), 2) := by decide +kernel
theorem d_M_next_420 : decode prog_10_method_10_code 420 = .ok (.if_icmp .ne (15), 3) := by decide +kernel
theorem d_M_next_423 : decode prog_10_method_10_code 423 = .ok (.iload_n 2, 1) := by decide +kernel
theorem d_M_next_424 : decode prog_10_method_10_code 424 = .ok (.bipush (61), 2) := by decide +kernel
theorem d_M_next_426 : decode prog_10_method_10_code 426 = .ok (.if_icmp .ne (9), 3) := by decide +kernel
theorem d_M_next_429 : decode prog_10_method_10_code 429 = .ok (.sipush (200), 3) := by decide +kernel
theorem d_M_next_432 : decode prog_10_method_10_code 432 = .ok (.goto (95), 3) := by decide +kernel
theorem d_M_next_435 : decode prog_10_method_10_code 435 = .ok (.iload_n 1, 1) := by decide +kernel
theorem d_M_next_436 : decode prog_10_method_10_code 436 = .ok (.bipush (62), 2) := by decide +kernel
theorem d_M_next_438 : decode prog_10_method_10_code 438 = .ok (.if_icmp .ne (15), 3) := by decide +kernel
theorem d_M_next_441 : decode prog_10_method_10_code 441 = .ok (.iload_n 2, 1) := by decide +kernel
theorem d_M_next_442 : decode prog_10_method_10_code 442 = .ok (.bipush (61), 2) := by decide +kernel
theorem d_M_next_444 : decode prog_10_method_10_code 444 = .ok (.if_icmp .ne (9), 3) := by decide +kernel
theorem d_M_next_447 : decode prog_10_method_10_code 447 = .ok (.sipush (201), 3) := by decide +kernel
theorem d_M_next_450 : decode prog_10_method_10_code 450 = .ok (.goto (77), 3) := by decide +kernel
theorem d_M_next_453 : decode prog_10_method_10_code 453 = .ok (.iload_n 1, 1) := by decide +kernel
theorem d_M_next_454 : decode prog_10_method_10_code 454 = .ok (.bipush (61), 2) := by decide +kernel
theorem d_M_next_456 : decode prog_10_method_10_code 456 = .ok (.if_icmp .ne (15), 3) := by decide +kernel
theorem d_M_next_459 : decode prog_10_method_10_code 459 = .ok (.iload_n 2, 1) := by decide +kernel
theorem d_M_next_460 : decode prog_10_method_10_code 460 = .ok (.bipush (61), 2) := by decide +kernel
theorem d_M_next_462 : decode prog_10_method_10_code 462 = .ok (.if_icmp .ne (9), 3) := by decide +kernel
theorem d_M_next_465 : decode prog_10_method_10_code 465 = .ok (.sipush (202), 3) := by decide +kernel
theorem d_M_next_468 : decode prog_10_method_10_code 468 = .ok (.goto (59), 3) := by decide +kernel
theorem d_M_next_471 : decode prog_10_method_10_code 471 = .ok (.iload_n 1, 1) := by decide +kernel
theorem d_M_next_472 : decode prog_10_method_10_code 472 = .ok (.bipush (33), 2) := by decide +kernel
theorem d_M_next_474 : decode prog_10_method_10_code 474 = .ok (.if_icmp .ne (15), 3) := by decide +kernel
theorem d_M_next_477 : decode prog_10_method_10_code 477 = .ok (.iload_n 2, 1) := by decide +kernel
theorem d_M_next_478 : decode prog_10_method_10_code 478 = .ok (.bipush (61), 2) := by decide +kernel
theorem d_M_next_480 : decode prog_10_method_10_code 480 = .ok (.if_icmp .ne (9), 3) := by decide +kernel
theorem d_M_next_483 : decode prog_10_method_10_code 483 = .ok (.sipush (203), 3) := by decide +kernel
theorem d_M_next_486 : decode prog_10_method_10_code 486 = .ok (.goto (41), 3) := by decide +kernel
theorem d_M_next_489 : decode prog_10_method_10_code 489 = .ok (.iload_n 1, 1) := by decide +kernel
theorem d_M_next_490 : decode prog_10_method_10_code 490 = .ok (.bipush (38), 2) := by decide +kernel
theorem d_M_next_492 : decode prog_10_method_10_code 492 = .ok (.if_icmp .ne (15), 3) := by decide +kernel
theorem d_M_next_495 : decode prog_10_method_10_code 495 = .ok (.iload_n 2, 1) := by decide +kernel
theorem d_M_next_496 : decode prog_10_method_10_code 496 = .ok (.bipush (38), 2) := by decide +kernel
theorem d_M_next_498 : decode prog_10_method_10_code 498 = .ok (.if_icmp .ne (9), 3) := by decide +kernel
theorem d_M_next_501 : decode prog_10_method_10_code 501 = .ok (.sipush (204), 3) := by decide +kernel
theorem d_M_next_504 : decode prog_10_method_10_code 504 = .ok (.goto (23), 3) := by decide +kernel
theorem d_M_next_507 : decode prog_10_method_10_code 507 = .ok (.iload_n 1, 1) := by decide +kernel
theorem d_M_next_508 : decode prog_10_method_10_code 508 = .ok (.bipush (124), 2) := by decide +kernel
theorem d_M_next_510 : decode prog_10_method_10_code 510 = .ok (.if_icmp .ne (15), 3) := by decide +kernel
theorem d_M_next_513 : decode prog_10_method_10_code 513 = .ok (.iload_n 2, 1) := by decide +kernel
theorem d_M_next_514 : decode prog_10_method_10_code 514 = .ok (.bipush (124), 2) := by decide +kernel
theorem d_M_next_516 : decode prog_10_method_10_code 516 = .ok (.if_icmp .ne (9), 3) := by decide +kernel
theorem d_M_next_519 : decode prog_10_method_10_code 519 = .ok (.sipush (205), 3) := by decide +kernel
theorem d_M_next_522 : decode prog_10_method_10_code 522 = .ok (.goto (5), 3) := by decide +kernel
theorem d_M_next_525 : decode prog_10_method_10_code 525 = .ok (.bipush (7), 2) := by decide +kernel
theorem d_M_next_527 : decode prog_10_method_10_code 527 = .ok (.putfield 103, 3) := by decide +kernel
theorem d_M_next_530 : decode prog_10_method_10_code 530 = .ok (.aload_n 0, 1) := by decide +kernel
theorem d_M_next_531 : decode prog_10_method_10_code 531 = .ok (.getfield 103, 3) := by decide +kernel
theorem d_M_next_534 : decode prog_10_method_10_code 534 = .ok (.bipush (7), 2) := by decide +kernel
theorem d_M_next_536 : decode prog_10_method_10_code 536 = .ok (.if_icmp .eq (14), 3) := by decide +kernel
theorem d_M_next_539 : decode prog_10_method_10_code 539 = .ok (.aload_n 0, 1) := by decide +kernel
theorem d_M_next_540 : decode prog_10_method_10_code 540 = .ok (.aload_n 0, 1) := by decide +kernel
theorem d_M_next_541 : decode prog_10_method_10_code 541 = .ok (.getfield 93, 3) := by decide +kernel
theorem d_M_next_544 : decode prog_10_method_10_code 544 = .ok (.iconst 2, 1) := by decide +kernel
theorem d_M_next_545 : decode prog_10_method_10_code 545 = .ok (.iadd, 1) := by decide +kernel
theorem d_M_next_546 : decode prog_10_method_10_code 546 = .ok (.putfield 96, 3) := by decide +kernel
theorem d_M_next_549 : decode prog_10_method_10_code 549 = .ok (.return_, 1) := by decide +kernel
theorem d_M_next_550 : decode prog_10_method_10_code 550 = .ok (.iload_n 1, 1) := by decide +kernel
theorem d_M_next_551 : decode prog_10_method_10_code 551 = .ok (.bipush (40), 2) := by decide +kernel
theorem d_M_next_553 : decode prog_10_method_10_code 553 = .ok (.if_icmp .eq (75), 3) := by decide +kernel
theorem d_M_next_556 : decode prog_10_method_10_code 556 = .ok (.iload_n 1, 1) := by decide +kernel
theorem d_M_next_557 : decode prog_10_method_10_code 557 = .ok (.bipush (41), 2) := by decide +kernel
theorem d_M_next_559 : decode prog_10_method_10_code 559 = .ok (.if_icmp .eq (69), 3) := by decide +kernel
theorem d_M_next_562 : decode prog_10_method_10_code 562 = .ok (.iload_n 1, 1) := by decide +kernel
theorem d_M_next_563 : decode prog_10_method_10_code 563 = .ok (.bipush (44), 2) := by decide +kernel
theorem d_M_next_565 : decode prog_10_method_10_code 565 = .ok (.if_icmp .eq (63), 3) := by decide +kernel
theorem d_M_next_568 : decode prog_10_method_10_code 568 = .ok (.iload_n 1, 1) := by decide +kernel
theorem d_M_next_569 : decode prog_10_method_10_code 569 = .ok (.bipush (63), 2) := by decide +kernel
theorem d_M_next_571 : decode prog_10_method_10_code 571 = .ok (.if_icmp .eq (57), 3) := by decide +kernel
theorem d_M_next_574 : decode prog_10_method_10_code 574 = .ok (.iload_n 1, 1) := by decide +kernel
theorem d_M_next_575 : decode prog_10_method_10_code 575 = .ok (.bipush (58), 2) := by decide +kernel
theorem d_M_next_577 : decode prog_10_method_10_code 577 = .ok (.if_icmp .eq (51), 3) := by decide +kernel
theorem d_M_next_580 : decode prog_10_method_10_code 580 = .ok (.iload_n 1, 1) := by decide +kernel
theorem d_M_next_581 : decode prog_10_method_10_code 581 = .ok (.bipush (43), 2) := by decide +kernel
theorem d_M_next_583 : decode prog_10_method_10_code 583 = .ok (.if_icmp .eq (45), 3) := by decide +kernel
theorem d_M_next_586 : decode prog_10_method_10_code 586 = .ok (.iload_n 1, 1) := by decide +kernel
theorem d_M_next_587 : decode prog_10_method_10_code 587 = .ok (.bipush (45), 2) := by decide +kernel
theorem d_M_next_589 : decode prog_10_method_10_code 589 = .ok (.if_icmp .eq (39), 3) := by decide +kernel
theorem d_M_next_592 : decode prog_10_method_10_code 592 = .ok (.iload_n 1, 1) := by decide +kernel
theorem d_M_next_593 : decode prog_10_method_10_code 593 = .ok (.bipush (42), 2) := by decide +kernel
theorem d_M_next_595 : decode prog_10_method_10_code 595 = .ok (.if_icmp .eq (33), 3) := by decide +kernel
theorem d_M_next_598 : decode prog_10_method_10_code 598 = .ok (.iload_n 1, 1) := by decide +kernel
theorem d_M_next_599 : decode prog_10_method_10_code 599 = .ok (.bipush (47), 2) := by decide +kernel
theorem d_M_next_601 : decode prog_10_method_10_code 601 = .ok (.if_icmp .eq (27), 3) := by decide +kernel
theorem d_M_next_604 : decode prog_10_method_10_code 604 = .ok (.iload_n 1, 1) := by decide +kernel
theorem d_M_next_605 : decode prog_10_method_10_code 605 = .ok (.bipush (37), 2) := by decide +kernel
theorem d_M_next_607 : decode prog_10_method_10_code 607 = .ok (.if_icmp .eq (21), 3) := by decide +kernel
theorem d_M_next_610 : decode prog_10_method_10_code 610 = .ok (.iload_n 1, 1) := by decide +kernel
theorem d_M_next_611 : decode prog_10_method_10_code 611 = .ok (.bipush (60), 2) := by decide +kernel
theorem d_M_next_613 : decode prog_10_method_10_code 613 = .ok (.if_icmp .eq (15), 3) := by decide +kernel
theorem d_M_next_616 : decode prog_10_method_10_code 616 = .ok (.iload_n 1, 1) := by decide +kernel
theorem d_M_next_617 : decode prog_10_method_10_code 617 = .ok (.bipush (62), 2) := by decide +kernel
theorem d_M_next_619 : decode prog_10_method_10_code 619 = .ok (.if_icmp .eq (9), 3) := by decide +kernel
theorem d_M_next_622 : decode prog_10_method_10_code 622 = .ok (.iload_n 1, 1) := by decide +kernel
theorem d_M_next_623 : decode prog_10_method_10_code 623 = .ok (.bipush (33), 2) := by decide +kernel
theorem d_M_next_625 : decode prog_10_method_10_code 625 = .ok (.if_icmp .ne (7), 3) := by decide +kernel
theorem d_M_next_628 : decode prog_10_method_10_code 628 = .ok (.iconst 1, 1) := by decide +kernel
theorem d_M_next_629 : decode prog_10_method_10_code 629 = .ok (.goto (4), 3) := by decide +kernel
theorem d_M_next_632 : decode prog_10_method_10_code 632 = .ok (.iconst 0, 1) := by decide +kernel
theorem d_M_next_633 : decode prog_10_method_10_code 633 = .ok (.istore_n 3, 1) := by decide +kernel
theorem d_M_next_634 : decode prog_10_method_10_code 634 = .ok (.aload_n 0, 1) := by decide +kernel
theorem d_M_next_635 : decode prog_10_method_10_code 635 = .ok (.iload_n 3, 1) := by decide +kernel
theorem d_M_next_636 : decode prog_10_method_10_code 636 = .ok (.ifCond .eq (7), 3) := by decide +kernel
theorem d_M_next_639 : decode prog_10_method_10_code 639 = .ok (.iload_n 1, 1) := by decide +kernel
theorem d_M_next_640 : decode prog_10_method_10_code 640 = .ok (.goto (5), 3) := by decide +kernel
theorem d_M_next_643 : decode prog_10_method_10_code 643 = .ok (.bipush (7), 2) := by decide +kernel
theorem d_M_next_645 : decode prog_10_method_10_code 645 = .ok (.putfield 103, 3) := by decide +kernel
theorem d_M_next_648 : decode prog_10_method_10_code 648 = .ok (.return_, 1) := by decide +kernel
def b_M_next_648 (post : zH → Prop) (h : zH) : Prop := post h
def b_M_next_166 (post : zH → Prop) (rc : zH → Prop) (h : zH) : Prop := (∀ h1 : zH, h1 = zi h 39 10 ((h.1 39 10) + 1) → rc  h1)
def b_M_next_211 (post : zH → Prop) (s0 : Int32) (h : zH) : Prop := (∀ h2 : zH, h2 = zi h 39 8 s0 → b_M_next_648 post  h2)
def b_M_next_205 (post : zH → Prop) (h : zH) : Prop := b_M_next_211 post (7) h
def b_M_next_115 (post : zH → Prop) : Nat → zH → Prop
  | 0, _ => False
  | n + 1, h => (fun rc : zH → Prop => wp_M_isDigit ((h.1 39 10)) h (fun (r3 : Int32) (h4 : zH) => ((r3 = 0 → ((10 < ((h4.1 39 10) - (h4.1 39 9)) → b_M_next_205 post  h4) ∧ (¬ 10 < ((h4.1 39 10) - (h4.1 39 9)) → (((lg_cmp (h4.2.1 39 11) 2000000000) ≤ 0 → b_M_next_211 post (2) h4) ∧ (¬ (lg_cmp (h4.2.1 39 11) 2000000000) ≤ 0 → b_M_next_205 post  h4))))) ∧ (¬ r3 = 0 → ((11 ≤ ((h4.1 39 10) - (h4.1 39 9)) → b_M_next_166 post rc  h4) ∧ (¬ 11 ≤ ((h4.1 39 10) - (h4.1 39 9)) → wp_M_at ((h4.1 39 10)) h4 (fun (r5 : Int32) (h6 : zH) => (∀ h7 : zH, h7 = zl h6 39 11 (((10 * (h4.2.1 39 11)) + (r5 : Int32).toInt64) - 48) → b_M_next_166 post rc  h7)))))))) (b_M_next_115 post n)
def b_M_next_332 (post : zH → Prop) (s0 : Int32) (h : zH) : Prop := (∀ h8 : zH, h8 = zi h 39 8 s0 → b_M_next_648 post  h8)
def b_M_next_275 (post : zH → Prop) : Nat → Int32 → zH → Prop
  | 0, _, _ => False
  | n + 1, l3, h => (fun rc : Int32 → zH → Prop => (((h.1 39 10) ≤ l3 → ((0 ≤ (lg_cmp (h.2.1 39 11) ((h.1 39 1) : Int32).toInt64) → b_M_next_332 post (7) h) ∧ (¬ 0 ≤ (lg_cmp (h.2.1 39 11) ((h.1 39 1) : Int32).toInt64) → b_M_next_332 post (3) h))) ∧ (¬ (h.1 39 10) ≤ l3 → wp_M_at (l3) h (fun (r9 : Int32) (h10 : zH) => (∀ h11 : zH, h11 = zl h10 39 11 (((10 * (h.2.1 39 11)) + (r9 : Int32).toInt64) - 48) → rc ((l3 + 1)) h11))))) (b_M_next_275 post n)
def b_M_next_265 (post : zH → Prop) (s0 : Int32) (h : zH) : Prop := (∀ h12 : zH, h12 = zi h 39 10 s0 → (∃ n : Nat, b_M_next_275 post n (((h12.1 39 9) + 1)) h12))
def b_M_next_400 (post : zH → Prop) (s0 : Int32) (h : zH) : Prop := (∀ h13 : zH, h13 = zi h 39 8 s0 → (∀ h14 : zH, h14 = zi h13 39 10 ((h13.1 39 9) + 3) → b_M_next_648 post  h14))
def b_M_next_377 (post : zH → Prop) (l1 : Int32) (l2 : Int32) (h : zH) : Prop := ((¬ l1 = 97 → ((¬ l2 = 105 → b_M_next_400 post (5) h) ∧ (l2 = 105 → b_M_next_400 post (4) h))) ∧ (l1 = 97 → b_M_next_400 post (6) h))
def b_M_next_645 (post : zH → Prop) (s0 : Int32) (h : zH) : Prop := (∀ h15 : zH, h15 = zi h 39 8 s0 → b_M_next_648 post  h15)
def b_M_next_633 (post : zH → Prop) (l1 : Int32) (s0 : Int32) (h : zH) : Prop := ((s0 = 0 → b_M_next_645 post (7) h) ∧ (¬ s0 = 0 → b_M_next_645 post (l1) h))
def b_M_next_628 (post : zH → Prop) (l1 : Int32) (h : zH) : Prop := b_M_next_633 post (l1) (1) h
def b_M_next_527 (post : zH → Prop) (l1 : Int32) (s0 : Int32) (h : zH) : Prop := (∀ h16 : zH, h16 = zi h 39 8 s0 → (((h16.1 39 8) = 7 → ((l1 = 40 → b_M_next_628 post (l1) h16) ∧ (¬ l1 = 40 → ((l1 = 41 → b_M_next_628 post (l1) h16) ∧ (¬ l1 = 41 → ((l1 = 44 → b_M_next_628 post (l1) h16) ∧ (¬ l1 = 44 → ((l1 = 63 → b_M_next_628 post (l1) h16) ∧ (¬ l1 = 63 → ((l1 = 58 → b_M_next_628 post (l1) h16) ∧ (¬ l1 = 58 → ((l1 = 43 → b_M_next_628 post (l1) h16) ∧ (¬ l1 = 43 → ((l1 = 45 → b_M_next_628 post (l1) h16) ∧ (¬ l1 = 45 → ((l1 = 42 → b_M_next_628 post (l1) h16) ∧ (¬ l1 = 42 → ((l1 = 47 → b_M_next_628 post (l1) h16) ∧ (¬ l1 = 47 → ((l1 = 37 → b_M_next_628 post (l1) h16) ∧ (¬ l1 = 37 → ((l1 = 60 → b_M_next_628 post (l1) h16) ∧ (¬ l1 = 60 → ((l1 = 62 → b_M_next_628 post (l1) h16) ∧ (¬ l1 = 62 → ((¬ l1 = 33 → b_M_next_633 post (l1) (0) h16) ∧ (l1 = 33 → b_M_next_628 post (l1) h16))))))))))))))))))))))))))) ∧ (¬ (h16.1 39 8) = 7 → (∀ h17 : zH, h17 = zi h16 39 10 ((h16.1 39 9) + 2) → post h17))))
def b_M_next_525 (post : zH → Prop) (l1 : Int32) (h : zH) : Prop := b_M_next_527 post (l1) (7) h
def b_M_next_507 (post : zH → Prop) (l1 : Int32) (l2 : Int32) (h : zH) : Prop := ((¬ l1 = 124 → b_M_next_525 post (l1) h) ∧ (l1 = 124 → ((¬ l2 = 124 → b_M_next_525 post (l1) h) ∧ (l2 = 124 → b_M_next_527 post (l1) (205) h))))
def b_M_next_489 (post : zH → Prop) (l1 : Int32) (l2 : Int32) (h : zH) : Prop := ((¬ l1 = 38 → b_M_next_507 post (l1) (l2) h) ∧ (l1 = 38 → ((¬ l2 = 38 → b_M_next_507 post (l1) (l2) h) ∧ (l2 = 38 → b_M_next_527 post (l1) (204) h))))
def b_M_next_471 (post : zH → Prop) (l1 : Int32) (l2 : Int32) (h : zH) : Prop := ((¬ l1 = 33 → b_M_next_489 post (l1) (l2) h) ∧ (l1 = 33 → ((¬ l2 = 61 → b_M_next_489 post (l1) (l2) h) ∧ (l2 = 61 → b_M_next_527 post (l1) (203) h))))
def b_M_next_453 (post : zH → Prop) (l1 : Int32) (l2 : Int32) (h : zH) : Prop := ((¬ l1 = 61 → b_M_next_471 post (l1) (l2) h) ∧ (l1 = 61 → ((¬ l2 = 61 → b_M_next_471 post (l1) (l2) h) ∧ (l2 = 61 → b_M_next_527 post (l1) (202) h))))
def b_M_next_435 (post : zH → Prop) (l1 : Int32) (l2 : Int32) (h : zH) : Prop := ((¬ l1 = 62 → b_M_next_453 post (l1) (l2) h) ∧ (l1 = 62 → ((¬ l2 = 61 → b_M_next_453 post (l1) (l2) h) ∧ (l2 = 61 → b_M_next_527 post (l1) (201) h))))
def b_M_next_338 (post : zH → Prop) (l1 : Int32) (l2 : Int32) (h : zH) : Prop := wp_M_stands (109) (105) (110) h (fun (r18 : Int32) (h19 : zH) => ((¬ r18 = 0 → b_M_next_377 post (l1) (l2) h19) ∧ (r18 = 0 → wp_M_stands (109) (97) (120) h19 (fun (r20 : Int32) (h21 : zH) => ((¬ r20 = 0 → b_M_next_377 post (l1) (l2) h21) ∧ (r20 = 0 → wp_M_stands (97) (98) (115) h21 (fun (r22 : Int32) (h23 : zH) => ((r22 = 0 → ((¬ l1 = 60 → b_M_next_435 post (l1) (l2) h23) ∧ (l1 = 60 → ((¬ l2 = 61 → b_M_next_435 post (l1) (l2) h23) ∧ (l2 = 61 → b_M_next_527 post (l1) (200) h23))))) ∧ (¬ r22 = 0 → b_M_next_377 post (l1) (l2) h23)))))))))
def b_M_next_8 (post : zH → Prop) : Nat → zH → Prop
  | 0, _ => False
  | n + 1, h => (fun rc : zH → Prop => wp_M_at ((h.1 39 9)) h (fun (r24 : Int32) (h25 : zH) => ((¬ r24 = 32 → wp_M_at ((h25.1 39 9)) h25 (fun (r26 : Int32) (h27 : zH) => wp_M_at (((h27.1 39 9) + 1)) h27 (fun (r28 : Int32) (h29 : zH) => (∀ h30 : zH, h30 = zi h29 39 10 ((h29.1 39 9) + 1) → (∀ h31 : zH, h31 = zl h30 39 11 0 → (((h31.1 39 9) < (h31.1 39 7) → wp_M_isDigit ((h31.1 39 9)) h31 (fun (r32 : Int32) (h33 : zH) => ((r32 = 0 → ((¬ r26 = 118 → b_M_next_338 post (r26) (r28) h33) ∧ (r26 = 118 → wp_M_isDigit (((h33.1 39 9) + 1)) h33 (fun (r34 : Int32) (h35 : zH) => ((r34 = 0 → b_M_next_338 post (r26) (r28) h35) ∧ (¬ r34 = 0 → wp_M_isDigit (((h35.1 39 9) + 2)) h35 (fun (r36 : Int32) (h37 : zH) => ((r36 = 0 → b_M_next_265 post (((h37.1 39 9) + 2)) h37) ∧ (¬ r36 = 0 → b_M_next_265 post (((h37.1 39 9) + 3)) h37))))))))) ∧ (¬ r32 = 0 → (∀ h38 : zH, h38 = zi h33 39 10 (h33.1 39 9) → (∃ n : Nat, b_M_next_115 post n  h38)))))) ∧ (¬ (h31.1 39 9) < (h31.1 39 7) → (∀ h39 : zH, h39 = zi h31 39 8 1 → (∀ h40 : zH, h40 = zi h39 39 10 (h39.1 39 9) → b_M_next_648 post  h40))))))))) ∧ (r24 = 32 → (∀ h41 : zH, h41 = zi h25 39 9 ((h25.1 39 9) + 1) → rc  h41))))) (b_M_next_8 post n)
def wp_M_next (h : zH) (post : zH → Prop) : Prop := (∀ h42 : zH, h42 = zi h 39 9 (h.1 39 10) → (∃ n : Nat, b_M_next_8 post n  h42))
set_option maxRecDepth 100000 in
set_option maxHeartbeats 4000000 in
theorem w_M_next_648 {l : Launch} {E : zE} {G : (Nat → Prop) → State → Prop} {p : Program} {e : Env} {s : State} {m : MethodId} {args : Array Value} {below : List Frame} {meth : Method} {c : Code} {A : Nat → Prop} {post : zH → Prop} (hG : xGG E G) (C : zCx p s m args meth c E G A 2 44 prog_10_method_10_code 4 cn_M) (hr : meth.sig.returnType = none)  (h : zH) (hw : b_M_next_648 post  h) : zGo p l e s m args below meth c E A 2 44 4 (zPv post) h 648 [none, none, none, none] [] := by
  unfold b_M_next_648 at hw
  exact z_vret C hr d_M_next_648 hw
set_option maxRecDepth 100000 in
set_option maxHeartbeats 4000000 in
theorem w_M_next_166 {l : Launch} {E : zE} {G : (Nat → Prop) → State → Prop} {p : Program} {e : Env} {s : State} {m : MethodId} {args : Array Value} {below : List Frame} {meth : Method} {c : Code} {A : Nat → Prop} {post : zH → Prop} (hG : xGG E G) (C : zCx p s m args meth c E G A 2 44 prog_10_method_10_code 4 cn_M) (hr : meth.sig.returnType = none) {rc : zH → Prop} (hrc : ∀ (h : zH), rc  h → zGo p l e s m args below meth c E A 2 44 4 (zPv post) h 115 [some (.ref (E.2.2.1 39)), none, none, none] []) (h : zH) (hw : b_M_next_166 post rc  h) : zGo p l e s m args below meth c E A 2 44 4 (zPv post) h 166 [some (.ref (E.2.2.1 39)), none, none, none] [] := by
  unfold b_M_next_166 at hw
  refine z_aload_n C (i := 0) d_M_next_166 rfl rfl ?_
  refine z_dup C d_M_next_167 rfl ?_
  refine z_getI C (ci := 8) (j := 10) (F := cf_M) (by decide) rfl rfl in_M (by decide) fl_M_96 rfl d_M_next_168 ?_
  refine z_iconst C (v := 1) d_M_next_171 (by decide) ?_
  refine z_iadd C d_M_next_172 ?_
  refine z_putI C (ci := 8) (j := 10) (F := cf_M) ct_M (by decide) rfl rfl in_M ty_M nm_M (by decide) fl_M_96 rfl (by decide +kernel) rfl d_M_next_173 (fun h1 eh1 => ?_)
  replace hw := hw h1 eh1
  refine z_goto C (tgt := 115) d_M_next_176 (by decide) ?_
  refine z_le (lv2 := [some (.ref (E.2.2.1 39)), none, none, none]) (⟨rfl, trivial⟩) ?_
  exact hrc  _ hw
set_option maxRecDepth 100000 in
set_option maxHeartbeats 4000000 in
theorem w_M_next_211 {l : Launch} {E : zE} {G : (Nat → Prop) → State → Prop} {p : Program} {e : Env} {s : State} {m : MethodId} {args : Array Value} {below : List Frame} {meth : Method} {c : Code} {A : Nat → Prop} {post : zH → Prop} (hG : xGG E G) (C : zCx p s m args meth c E G A 2 44 prog_10_method_10_code 4 cn_M) (hr : meth.sig.returnType = none)  (s0 : Int32) (h : zH) (hw : b_M_next_211 post s0 h) : zGo p l e s m args below meth c E A 2 44 4 (zPv post) h 211 [none, none, none, none] [.int s0, .ref (E.2.2.1 39)] := by
  unfold b_M_next_211 at hw
  refine z_putI C (ci := 8) (j := 8) (F := cf_M) ct_M (by decide) rfl rfl in_M ty_M nm_M (by decide) fl_M_103 rfl (by decide +kernel) rfl d_M_next_211 (fun h2 eh2 => ?_)
  replace hw := hw h2 eh2
  refine z_goto C (tgt := 648) d_M_next_214 (by decide) ?_
  refine z_le (lv2 := [none, none, none, none]) (trivial) ?_
  exact w_M_next_648 hG C hr  _ hw
set_option maxRecDepth 100000 in
set_option maxHeartbeats 4000000 in
theorem w_M_next_205 {l : Launch} {E : zE} {G : (Nat → Prop) → State → Prop} {p : Program} {e : Env} {s : State} {m : MethodId} {args : Array Value} {below : List Frame} {meth : Method} {c : Code} {A : Nat → Prop} {post : zH → Prop} (hG : xGG E G) (C : zCx p s m args meth c E G A 2 44 prog_10_method_10_code 4 cn_M) (hr : meth.sig.returnType = none)  (h : zH) (hw : b_M_next_205 post  h) : zGo p l e s m args below meth c E A 2 44 4 (zPv post) h 205 [none, none, none, none] [.ref (E.2.2.1 39)] := by
  unfold b_M_next_205 at hw
  refine z_bipush C (v := 7) d_M_next_205 (by decide) ?_
  refine z_goto C (tgt := 211) d_M_next_207 (by decide) ?_
  refine z_le (lv2 := [none, none, none, none]) (trivial) ?_
  exact w_M_next_211 hG C hr _ _ hw
set_option maxRecDepth 100000 in
set_option maxHeartbeats 4000000 in
theorem w_M_next_115 {l : Launch} {E : zE} {G : (Nat → Prop) → State → Prop} {p : Program} {e : Env} {s : State} {m : MethodId} {args : Array Value} {below : List Frame} {meth : Method} {c : Code} {A : Nat → Prop} {post : zH → Prop} (hG : xGG E G) (C : zCx p s m args meth c E G A 2 44 prog_10_method_10_code 4 cn_M) (hr : meth.sig.returnType = none) : ∀ (n : Nat) (h : zH), b_M_next_115 post n  h → zGo p l e s m args below meth c E A 2 44 4 (zPv post) h 115 [some (.ref (E.2.2.1 39)), none, none, none] [] := by
  intro n
  induction n with
  | zero => intro  h hw; exact False.elim hw
  | succ n hrc =>
    intro  h hw
    unfold b_M_next_115 at hw
    refine z_aload_n C (i := 0) d_M_next_115 rfl rfl ?_
    refine z_aload_n C (i := 0) d_M_next_116 rfl rfl ?_
    refine z_getI C (ci := 8) (j := 10) (F := cf_M) (by decide) rfl rfl in_M (by decide) fl_M_96 rfl d_M_next_117 ?_
    refine z_callVi ⟨xN_ok, hG.1⟩ zT_good C (t_M_isDigit hG hw) ol_M_106 (by decide) rfl rfl (by decide) (by decide) pl_M_isDigit rfl rfl (Nat.le_of_ble_eq_true rfl) d_M_next_120 (fun r3 h4 hw => ?_)
    refine z_if_eq C (tgt := 179) d_M_next_123 (by decide) (fun q => ?_) (fun q => ?_)
    · replace hw := hw.1 q
      refine z_aload_n C (i := 0) d_M_next_179 rfl rfl ?_
      refine z_aload_n C (i := 0) d_M_next_180 rfl rfl ?_
      refine z_getI C (ci := 8) (j := 10) (F := cf_M) (by decide) rfl rfl in_M (by decide) fl_M_96 rfl d_M_next_181 ?_
      refine z_aload_n C (i := 0) d_M_next_184 rfl rfl ?_
      refine z_getI C (ci := 8) (j := 9) (F := cf_M) (by decide) rfl rfl in_M (by decide) fl_M_93 rfl d_M_next_185 ?_
      refine z_isub C d_M_next_188 ?_
      refine z_bipush C (v := 10) d_M_next_189 (by decide) ?_
      refine z_icmp_gt C (tgt := 205) d_M_next_191 (by decide) (fun q => ?_) (fun q => ?_)
      · replace hw := hw.1 q
        refine z_le (lv2 := [none, none, none, none]) (trivial) ?_
        exact w_M_next_205 hG C hr  _ hw
      · replace hw := hw.2 q
        refine z_aload_n C (i := 0) d_M_next_194 rfl rfl ?_
        refine z_getL C (ci := 8) (j := 11) (F := cf_M) (by decide) rfl rfl in_M (by decide) fl_M_99 rfl d_M_next_195 ?_
        refine z_ldc2 C (v := 2000000000) kl_M_77 d_M_next_198 ?_
        refine z_lcmp C d_M_next_201 ?_
        refine z_if_le C (tgt := 210) d_M_next_202 (by decide) (fun q => ?_) (fun q => ?_)
        · replace hw := hw.1 q
          refine z_iconst C (v := 2) d_M_next_210 (by decide) ?_
          refine z_le (lv2 := [none, none, none, none]) (trivial) ?_
          exact w_M_next_211 hG C hr _ _ hw
        · replace hw := hw.2 q
          refine z_le (lv2 := [none, none, none, none]) (trivial) ?_
          exact w_M_next_205 hG C hr  _ hw
    · replace hw := hw.2 q
      refine z_aload_n C (i := 0) d_M_next_126 rfl rfl ?_
      refine z_getI C (ci := 8) (j := 10) (F := cf_M) (by decide) rfl rfl in_M (by decide) fl_M_96 rfl d_M_next_127 ?_
      refine z_aload_n C (i := 0) d_M_next_130 rfl rfl ?_
      refine z_getI C (ci := 8) (j := 9) (F := cf_M) (by decide) rfl rfl in_M (by decide) fl_M_93 rfl d_M_next_131 ?_
      refine z_isub C d_M_next_134 ?_
      refine z_bipush C (v := 11) d_M_next_135 (by decide) ?_
      refine z_icmp_ge C (tgt := 166) d_M_next_137 (by decide) (fun q => ?_) (fun q => ?_)
      · replace hw := hw.1 q
        refine z_le (lv2 := [some (.ref (E.2.2.1 39)), none, none, none]) (⟨rfl, trivial⟩) ?_
        exact w_M_next_166 hG C hr hrc  _ hw
      · replace hw := hw.2 q
        refine z_aload_n C (i := 0) d_M_next_140 rfl rfl ?_
        refine z_ldc2 C (v := 10) kl_M_110 d_M_next_141 ?_
        refine z_aload_n C (i := 0) d_M_next_144 rfl rfl ?_
        refine z_getL C (ci := 8) (j := 11) (F := cf_M) (by decide) rfl rfl in_M (by decide) fl_M_99 rfl d_M_next_145 ?_
        refine z_lmul C d_M_next_148 ?_
        refine z_aload_n C (i := 0) d_M_next_149 rfl rfl ?_
        refine z_aload_n C (i := 0) d_M_next_150 rfl rfl ?_
        refine z_getI C (ci := 8) (j := 10) (F := cf_M) (by decide) rfl rfl in_M (by decide) fl_M_96 rfl d_M_next_151 ?_
        refine z_callVi ⟨xN_ok, hG.1⟩ zT_good C (t_M_at hG hw) ol_M_89 (by decide) rfl rfl (by decide) (by decide) pl_M_at rfl rfl (Nat.le_of_ble_eq_true rfl) d_M_next_154 (fun r5 h6 hw => ?_)
        refine z_i2l C d_M_next_157 ?_
        refine z_ladd C d_M_next_158 ?_
        refine z_ldc2 C (v := 48) kl_M_112 d_M_next_159 ?_
        refine z_lsub C d_M_next_162 ?_
        refine z_putL C (ci := 8) (j := 11) (F := cf_M) ct_M (by decide) rfl rfl in_M ty_M nm_M (by decide) fl_M_99 rfl (by decide +kernel) rfl d_M_next_163 (fun h7 eh7 => ?_)
        replace hw := hw h7 eh7
        refine z_le (lv2 := [some (.ref (E.2.2.1 39)), none, none, none]) (⟨rfl, trivial⟩) ?_
        exact w_M_next_166 hG C hr hrc  _ hw
set_option maxRecDepth 100000 in
set_option maxHeartbeats 4000000 in
theorem w_M_next_332 {l : Launch} {E : zE} {G : (Nat → Prop) → State → Prop} {p : Program} {e : Env} {s : State} {m : MethodId} {args : Array Value} {below : List Frame} {meth : Method} {c : Code} {A : Nat → Prop} {post : zH → Prop} (hG : xGG E G) (C : zCx p s m args meth c E G A 2 44 prog_10_method_10_code 4 cn_M) (hr : meth.sig.returnType = none)  (s0 : Int32) (h : zH) (hw : b_M_next_332 post s0 h) : zGo p l e s m args below meth c E A 2 44 4 (zPv post) h 332 [none, none, none, none] [.int s0, .ref (E.2.2.1 39)] := by
  unfold b_M_next_332 at hw
  refine z_putI C (ci := 8) (j := 8) (F := cf_M) ct_M (by decide) rfl rfl in_M ty_M nm_M (by decide) fl_M_103 rfl (by decide +kernel) rfl d_M_next_332 (fun h8 eh8 => ?_)
  replace hw := hw h8 eh8
  refine z_goto C (tgt := 648) d_M_next_335 (by decide) ?_
  refine z_le (lv2 := [none, none, none, none]) (trivial) ?_
  exact w_M_next_648 hG C hr  _ hw
set_option maxRecDepth 100000 in
set_option maxHeartbeats 4000000 in
theorem w_M_next_275 {l : Launch} {E : zE} {G : (Nat → Prop) → State → Prop} {p : Program} {e : Env} {s : State} {m : MethodId} {args : Array Value} {below : List Frame} {meth : Method} {c : Code} {A : Nat → Prop} {post : zH → Prop} (hG : xGG E G) (C : zCx p s m args meth c E G A 2 44 prog_10_method_10_code 4 cn_M) (hr : meth.sig.returnType = none) : ∀ (n : Nat) (l3 : Int32) (h : zH), b_M_next_275 post n l3 h → zGo p l e s m args below meth c E A 2 44 4 (zPv post) h 275 [some (.ref (E.2.2.1 39)), none, none, some (.int l3)] [] := by
  intro n
  induction n with
  | zero => intro l3 h hw; exact False.elim hw
  | succ n hrc =>
    intro l3 h hw
    unfold b_M_next_275 at hw
    refine z_iload_n C (i := 3) d_M_next_275 rfl rfl ?_
    refine z_aload_n C (i := 0) d_M_next_276 rfl rfl ?_
    refine z_getI C (ci := 8) (j := 10) (F := cf_M) (by decide) rfl rfl in_M (by decide) fl_M_96 rfl d_M_next_277 ?_
    refine z_icmp_ge C (tgt := 312) d_M_next_280 (by decide) (fun q => ?_) (fun q => ?_)
    · replace hw := hw.1 q
      refine z_aload_n C (i := 0) d_M_next_312 rfl rfl ?_
      refine z_aload_n C (i := 0) d_M_next_313 rfl rfl ?_
      refine z_getL C (ci := 8) (j := 11) (F := cf_M) (by decide) rfl rfl in_M (by decide) fl_M_99 rfl d_M_next_314 ?_
      refine z_aload_n C (i := 0) d_M_next_317 rfl rfl ?_
      refine z_getI C (ci := 8) (j := 1) (F := cf_M) (by decide) rfl rfl in_M (by decide) fl_M_72 rfl d_M_next_318 ?_
      refine z_i2l C d_M_next_321 ?_
      refine z_lcmp C d_M_next_322 ?_
      refine z_if_ge C (tgt := 330) d_M_next_323 (by decide) (fun q => ?_) (fun q => ?_)
      · replace hw := hw.1 q
        refine z_bipush C (v := 7) d_M_next_330 (by decide) ?_
        refine z_le (lv2 := [none, none, none, none]) (trivial) ?_
        exact w_M_next_332 hG C hr _ _ hw
      · replace hw := hw.2 q
        refine z_iconst C (v := 3) d_M_next_326 (by decide) ?_
        refine z_goto C (tgt := 332) d_M_next_327 (by decide) ?_
        refine z_le (lv2 := [none, none, none, none]) (trivial) ?_
        exact w_M_next_332 hG C hr _ _ hw
    · replace hw := hw.2 q
      refine z_aload_n C (i := 0) d_M_next_283 rfl rfl ?_
      refine z_ldc2 C (v := 10) kl_M_110 d_M_next_284 ?_
      refine z_aload_n C (i := 0) d_M_next_287 rfl rfl ?_
      refine z_getL C (ci := 8) (j := 11) (F := cf_M) (by decide) rfl rfl in_M (by decide) fl_M_99 rfl d_M_next_288 ?_
      refine z_lmul C d_M_next_291 ?_
      refine z_aload_n C (i := 0) d_M_next_292 rfl rfl ?_
      refine z_iload_n C (i := 3) d_M_next_293 rfl rfl ?_
      refine z_callVi ⟨xN_ok, hG.1⟩ zT_good C (t_M_at hG hw) ol_M_89 (by decide) rfl rfl (by decide) (by decide) pl_M_at rfl rfl (Nat.le_of_ble_eq_true rfl) d_M_next_294 (fun r9 h10 hw => ?_)
      refine z_i2l C d_M_next_297 ?_
      refine z_ladd C d_M_next_298 ?_
      refine z_ldc2 C (v := 48) kl_M_112 d_M_next_299 ?_
      refine z_lsub C d_M_next_302 ?_
      refine z_putL C (ci := 8) (j := 11) (F := cf_M) ct_M (by decide) rfl rfl in_M ty_M nm_M (by decide) fl_M_99 rfl (by decide +kernel) rfl d_M_next_303 (fun h11 eh11 => ?_)
      replace hw := hw h11 eh11
      refine z_iinc C (v := l3 + 1) d_M_next_306 rfl rfl (by decide) rfl ?_
      refine z_goto C (tgt := 275) d_M_next_309 (by decide) ?_
      refine z_le (lv2 := [some (.ref (E.2.2.1 39)), none, none, some (.int (l3 + 1))]) (⟨rfl, ⟨rfl, trivial⟩⟩) ?_
      exact hrc _ _ hw
set_option maxRecDepth 100000 in
set_option maxHeartbeats 4000000 in
theorem w_M_next_265 {l : Launch} {E : zE} {G : (Nat → Prop) → State → Prop} {p : Program} {e : Env} {s : State} {m : MethodId} {args : Array Value} {below : List Frame} {meth : Method} {c : Code} {A : Nat → Prop} {post : zH → Prop} (hG : xGG E G) (C : zCx p s m args meth c E G A 2 44 prog_10_method_10_code 4 cn_M) (hr : meth.sig.returnType = none)  (s0 : Int32) (h : zH) (hw : b_M_next_265 post s0 h) : zGo p l e s m args below meth c E A 2 44 4 (zPv post) h 265 [some (.ref (E.2.2.1 39)), none, none, none] [.int s0, .ref (E.2.2.1 39)] := by
  unfold b_M_next_265 at hw
  refine z_putI C (ci := 8) (j := 10) (F := cf_M) ct_M (by decide) rfl rfl in_M ty_M nm_M (by decide) fl_M_96 rfl (by decide +kernel) rfl d_M_next_265 (fun h12 eh12 => ?_)
  replace hw := hw h12 eh12
  refine z_aload_n C (i := 0) d_M_next_268 rfl rfl ?_
  refine z_getI C (ci := 8) (j := 9) (F := cf_M) (by decide) rfl rfl in_M (by decide) fl_M_93 rfl d_M_next_269 ?_
  refine z_iconst C (v := 1) d_M_next_272 (by decide) ?_
  refine z_iadd C d_M_next_273 ?_
  refine z_istore_n C (i := 3) d_M_next_274 rfl (by decide) rfl ?_
  refine z_le (lv2 := [some (.ref (E.2.2.1 39)), none, none, some (.int ((h12.1 39 9) + 1))]) (⟨rfl, ⟨rfl, trivial⟩⟩) ?_
  obtain ⟨n, hw⟩ := hw
  exact w_M_next_275 hG C hr n _ _ hw
set_option maxRecDepth 100000 in
set_option maxHeartbeats 4000000 in
theorem w_M_next_400 {l : Launch} {E : zE} {G : (Nat → Prop) → State → Prop} {p : Program} {e : Env} {s : State} {m : MethodId} {args : Array Value} {below : List Frame} {meth : Method} {c : Code} {A : Nat → Prop} {post : zH → Prop} (hG : xGG E G) (C : zCx p s m args meth c E G A 2 44 prog_10_method_10_code 4 cn_M) (hr : meth.sig.returnType = none)  (s0 : Int32) (h : zH) (hw : b_M_next_400 post s0 h) : zGo p l e s m args below meth c E A 2 44 4 (zPv post) h 400 [some (.ref (E.2.2.1 39)), none, none, none] [.int s0, .ref (E.2.2.1 39)] := by
  unfold b_M_next_400 at hw
  refine z_putI C (ci := 8) (j := 8) (F := cf_M) ct_M (by decide) rfl rfl in_M ty_M nm_M (by decide) fl_M_103 rfl (by decide +kernel) rfl d_M_next_400 (fun h13 eh13 => ?_)
  replace hw := hw h13 eh13
  refine z_aload_n C (i := 0) d_M_next_403 rfl rfl ?_
  refine z_aload_n C (i := 0) d_M_next_404 rfl rfl ?_
  refine z_getI C (ci := 8) (j := 9) (F := cf_M) (by decide) rfl rfl in_M (by decide) fl_M_93 rfl d_M_next_405 ?_
  refine z_iconst C (v := 3) d_M_next_408 (by decide) ?_
  refine z_iadd C d_M_next_409 ?_
  refine z_putI C (ci := 8) (j := 10) (F := cf_M) ct_M (by decide) rfl rfl in_M ty_M nm_M (by decide) fl_M_96 rfl (by decide +kernel) rfl d_M_next_410 (fun h14 eh14 => ?_)
  replace hw := hw h14 eh14
  refine z_goto C (tgt := 648) d_M_next_413 (by decide) ?_
  refine z_le (lv2 := [none, none, none, none]) (trivial) ?_
  exact w_M_next_648 hG C hr  _ hw
set_option maxRecDepth 100000 in
set_option maxHeartbeats 4000000 in
theorem w_M_next_377 {l : Launch} {E : zE} {G : (Nat → Prop) → State → Prop} {p : Program} {e : Env} {s : State} {m : MethodId} {args : Array Value} {below : List Frame} {meth : Method} {c : Code} {A : Nat → Prop} {post : zH → Prop} (hG : xGG E G) (C : zCx p s m args meth c E G A 2 44 prog_10_method_10_code 4 cn_M) (hr : meth.sig.returnType = none)  (l1 : Int32) (l2 : Int32) (h : zH) (hw : b_M_next_377 post l1 l2 h) : zGo p l e s m args below meth c E A 2 44 4 (zPv post) h 377 [some (.ref (E.2.2.1 39)), some (.int l1), some (.int l2), none] [] := by
  unfold b_M_next_377 at hw
  refine z_aload_n C (i := 0) d_M_next_377 rfl rfl ?_
  refine z_iload_n C (i := 1) d_M_next_378 rfl rfl ?_
  refine z_bipush C (v := 97) d_M_next_379 (by decide) ?_
  refine z_icmp_ne C (tgt := 389) d_M_next_381 (by decide) (fun q => ?_) (fun q => ?_)
  · replace hw := hw.1 q
    refine z_iload_n C (i := 2) d_M_next_389 rfl rfl ?_
    refine z_bipush C (v := 105) d_M_next_390 (by decide) ?_
    refine z_icmp_ne C (tgt := 399) d_M_next_392 (by decide) (fun q => ?_) (fun q => ?_)
    · replace hw := hw.1 q
      refine z_iconst C (v := 5) d_M_next_399 (by decide) ?_
      refine z_le (lv2 := [some (.ref (E.2.2.1 39)), none, none, none]) (⟨rfl, trivial⟩) ?_
      exact w_M_next_400 hG C hr _ _ hw
    · replace hw := hw.2 q
      refine z_iconst C (v := 4) d_M_next_395 (by decide) ?_
      refine z_goto C (tgt := 400) d_M_next_396 (by decide) ?_
      refine z_le (lv2 := [some (.ref (E.2.2.1 39)), none, none, none]) (⟨rfl, trivial⟩) ?_
      exact w_M_next_400 hG C hr _ _ hw
  · replace hw := hw.2 q
    refine z_bipush C (v := 6) d_M_next_384 (by decide) ?_
    refine z_goto C (tgt := 400) d_M_next_386 (by decide) ?_
    refine z_le (lv2 := [some (.ref (E.2.2.1 39)), none, none, none]) (⟨rfl, trivial⟩) ?_
    exact w_M_next_400 hG C hr _ _ hw
set_option maxRecDepth 100000 in
set_option maxHeartbeats 4000000 in
theorem w_M_next_645 {l : Launch} {E : zE} {G : (Nat → Prop) → State → Prop} {p : Program} {e : Env} {s : State} {m : MethodId} {args : Array Value} {below : List Frame} {meth : Method} {c : Code} {A : Nat → Prop} {post : zH → Prop} (hG : xGG E G) (C : zCx p s m args meth c E G A 2 44 prog_10_method_10_code 4 cn_M) (hr : meth.sig.returnType = none)  (s0 : Int32) (h : zH) (hw : b_M_next_645 post s0 h) : zGo p l e s m args below meth c E A 2 44 4 (zPv post) h 645 [none, none, none, none] [.int s0, .ref (E.2.2.1 39)] := by
  unfold b_M_next_645 at hw
  refine z_putI C (ci := 8) (j := 8) (F := cf_M) ct_M (by decide) rfl rfl in_M ty_M nm_M (by decide) fl_M_103 rfl (by decide +kernel) rfl d_M_next_645 (fun h15 eh15 => ?_)
  replace hw := hw h15 eh15
  refine z_le (lv2 := [none, none, none, none]) (trivial) ?_
  exact w_M_next_648 hG C hr  _ hw
set_option maxRecDepth 100000 in
set_option maxHeartbeats 4000000 in
theorem w_M_next_633 {l : Launch} {E : zE} {G : (Nat → Prop) → State → Prop} {p : Program} {e : Env} {s : State} {m : MethodId} {args : Array Value} {below : List Frame} {meth : Method} {c : Code} {A : Nat → Prop} {post : zH → Prop} (hG : xGG E G) (C : zCx p s m args meth c E G A 2 44 prog_10_method_10_code 4 cn_M) (hr : meth.sig.returnType = none)  (l1 : Int32) (s0 : Int32) (h : zH) (hw : b_M_next_633 post l1 s0 h) : zGo p l e s m args below meth c E A 2 44 4 (zPv post) h 633 [some (.ref (E.2.2.1 39)), some (.int l1), none, none] [.int s0] := by
  unfold b_M_next_633 at hw
  refine z_istore_n C (i := 3) d_M_next_633 rfl (by decide) rfl ?_
  refine z_aload_n C (i := 0) d_M_next_634 rfl rfl ?_
  refine z_iload_n C (i := 3) d_M_next_635 rfl rfl ?_
  refine z_if_eq C (tgt := 643) d_M_next_636 (by decide) (fun q => ?_) (fun q => ?_)
  · replace hw := hw.1 q
    refine z_bipush C (v := 7) d_M_next_643 (by decide) ?_
    refine z_le (lv2 := [none, none, none, none]) (trivial) ?_
    exact w_M_next_645 hG C hr _ _ hw
  · replace hw := hw.2 q
    refine z_iload_n C (i := 1) d_M_next_639 rfl rfl ?_
    refine z_goto C (tgt := 645) d_M_next_640 (by decide) ?_
    refine z_le (lv2 := [none, none, none, none]) (trivial) ?_
    exact w_M_next_645 hG C hr _ _ hw
set_option maxRecDepth 100000 in
set_option maxHeartbeats 4000000 in
theorem w_M_next_628 {l : Launch} {E : zE} {G : (Nat → Prop) → State → Prop} {p : Program} {e : Env} {s : State} {m : MethodId} {args : Array Value} {below : List Frame} {meth : Method} {c : Code} {A : Nat → Prop} {post : zH → Prop} (hG : xGG E G) (C : zCx p s m args meth c E G A 2 44 prog_10_method_10_code 4 cn_M) (hr : meth.sig.returnType = none)  (l1 : Int32) (h : zH) (hw : b_M_next_628 post l1 h) : zGo p l e s m args below meth c E A 2 44 4 (zPv post) h 628 [some (.ref (E.2.2.1 39)), some (.int l1), none, none] [] := by
  unfold b_M_next_628 at hw
  refine z_iconst C (v := 1) d_M_next_628 (by decide) ?_
  refine z_goto C (tgt := 633) d_M_next_629 (by decide) ?_
  refine z_le (lv2 := [some (.ref (E.2.2.1 39)), some (.int l1), none, none]) (⟨rfl, ⟨rfl, trivial⟩⟩) ?_
  exact w_M_next_633 hG C hr _ _ _ hw
set_option maxRecDepth 100000 in
set_option maxHeartbeats 4000000 in
theorem w_M_next_527 {l : Launch} {E : zE} {G : (Nat → Prop) → State → Prop} {p : Program} {e : Env} {s : State} {m : MethodId} {args : Array Value} {below : List Frame} {meth : Method} {c : Code} {A : Nat → Prop} {post : zH → Prop} (hG : xGG E G) (C : zCx p s m args meth c E G A 2 44 prog_10_method_10_code 4 cn_M) (hr : meth.sig.returnType = none)  (l1 : Int32) (s0 : Int32) (h : zH) (hw : b_M_next_527 post l1 s0 h) : zGo p l e s m args below meth c E A 2 44 4 (zPv post) h 527 [some (.ref (E.2.2.1 39)), some (.int l1), none, none] [.int s0, .ref (E.2.2.1 39)] := by
  unfold b_M_next_527 at hw
  refine z_putI C (ci := 8) (j := 8) (F := cf_M) ct_M (by decide) rfl rfl in_M ty_M nm_M (by decide) fl_M_103 rfl (by decide +kernel) rfl d_M_next_527 (fun h16 eh16 => ?_)
  replace hw := hw h16 eh16
  refine z_aload_n C (i := 0) d_M_next_530 rfl rfl ?_
  refine z_getI C (ci := 8) (j := 8) (F := cf_M) (by decide) rfl rfl in_M (by decide) fl_M_103 rfl d_M_next_531 ?_
  refine z_bipush C (v := 7) d_M_next_534 (by decide) ?_
  refine z_icmp_eq C (tgt := 550) d_M_next_536 (by decide) (fun q => ?_) (fun q => ?_)
  · replace hw := hw.1 q
    refine z_iload_n C (i := 1) d_M_next_550 rfl rfl ?_
    refine z_bipush C (v := 40) d_M_next_551 (by decide) ?_
    refine z_icmp_eq C (tgt := 628) d_M_next_553 (by decide) (fun q => ?_) (fun q => ?_)
    · replace hw := hw.1 q
      refine z_le (lv2 := [some (.ref (E.2.2.1 39)), some (.int l1), none, none]) (⟨rfl, ⟨rfl, trivial⟩⟩) ?_
      exact w_M_next_628 hG C hr _ _ hw
    · replace hw := hw.2 q
      refine z_iload_n C (i := 1) d_M_next_556 rfl rfl ?_
      refine z_bipush C (v := 41) d_M_next_557 (by decide) ?_
      refine z_icmp_eq C (tgt := 628) d_M_next_559 (by decide) (fun q => ?_) (fun q => ?_)
      · replace hw := hw.1 q
        refine z_le (lv2 := [some (.ref (E.2.2.1 39)), some (.int l1), none, none]) (⟨rfl, ⟨rfl, trivial⟩⟩) ?_
        exact w_M_next_628 hG C hr _ _ hw
      · replace hw := hw.2 q
        refine z_iload_n C (i := 1) d_M_next_562 rfl rfl ?_
        refine z_bipush C (v := 44) d_M_next_563 (by decide) ?_
        refine z_icmp_eq C (tgt := 628) d_M_next_565 (by decide) (fun q => ?_) (fun q => ?_)
        · replace hw := hw.1 q
          refine z_le (lv2 := [some (.ref (E.2.2.1 39)), some (.int l1), none, none]) (⟨rfl, ⟨rfl, trivial⟩⟩) ?_
          exact w_M_next_628 hG C hr _ _ hw
        · replace hw := hw.2 q
          refine z_iload_n C (i := 1) d_M_next_568 rfl rfl ?_
          refine z_bipush C (v := 63) d_M_next_569 (by decide) ?_
          refine z_icmp_eq C (tgt := 628) d_M_next_571 (by decide) (fun q => ?_) (fun q => ?_)
          · replace hw := hw.1 q
            refine z_le (lv2 := [some (.ref (E.2.2.1 39)), some (.int l1), none, none]) (⟨rfl, ⟨rfl, trivial⟩⟩) ?_
            exact w_M_next_628 hG C hr _ _ hw
          · replace hw := hw.2 q
            refine z_iload_n C (i := 1) d_M_next_574 rfl rfl ?_
            refine z_bipush C (v := 58) d_M_next_575 (by decide) ?_
            refine z_icmp_eq C (tgt := 628) d_M_next_577 (by decide) (fun q => ?_) (fun q => ?_)
            · replace hw := hw.1 q
              refine z_le (lv2 := [some (.ref (E.2.2.1 39)), some (.int l1), none, none]) (⟨rfl, ⟨rfl, trivial⟩⟩) ?_
              exact w_M_next_628 hG C hr _ _ hw
            · replace hw := hw.2 q
              refine z_iload_n C (i := 1) d_M_next_580 rfl rfl ?_
              refine z_bipush C (v := 43) d_M_next_581 (by decide) ?_
              refine z_icmp_eq C (tgt := 628) d_M_next_583 (by decide) (fun q => ?_) (fun q => ?_)
              · replace hw := hw.1 q
                refine z_le (lv2 := [some (.ref (E.2.2.1 39)), some (.int l1), none, none]) (⟨rfl, ⟨rfl, trivial⟩⟩) ?_
                exact w_M_next_628 hG C hr _ _ hw
              · replace hw := hw.2 q
                refine z_iload_n C (i := 1) d_M_next_586 rfl rfl ?_
                refine z_bipush C (v := 45) d_M_next_587 (by decide) ?_
                refine z_icmp_eq C (tgt := 628) d_M_next_589 (by decide) (fun q => ?_) (fun q => ?_)
                · replace hw := hw.1 q
                  refine z_le (lv2 := [some (.ref (E.2.2.1 39)), some (.int l1), none, none]) (⟨rfl, ⟨rfl, trivial⟩⟩) ?_
                  exact w_M_next_628 hG C hr _ _ hw
                · replace hw := hw.2 q
                  refine z_iload_n C (i := 1) d_M_next_592 rfl rfl ?_
                  refine z_bipush C (v := 42) d_M_next_593 (by decide) ?_
                  refine z_icmp_eq C (tgt := 628) d_M_next_595 (by decide) (fun q => ?_) (fun q => ?_)
                  · replace hw := hw.1 q
                    refine z_le (lv2 := [some (.ref (E.2.2.1 39)), some (.int l1), none, none]) (⟨rfl, ⟨rfl, trivial⟩⟩) ?_
                    exact w_M_next_628 hG C hr _ _ hw
                  · replace hw := hw.2 q
                    refine z_iload_n C (i := 1) d_M_next_598 rfl rfl ?_
                    refine z_bipush C (v := 47) d_M_next_599 (by decide) ?_
                    refine z_icmp_eq C (tgt := 628) d_M_next_601 (by decide) (fun q => ?_) (fun q => ?_)
                    · replace hw := hw.1 q
                      refine z_le (lv2 := [some (.ref (E.2.2.1 39)), some (.int l1), none, none]) (⟨rfl, ⟨rfl, trivial⟩⟩) ?_
                      exact w_M_next_628 hG C hr _ _ hw
                    · replace hw := hw.2 q
                      refine z_iload_n C (i := 1) d_M_next_604 rfl rfl ?_
                      refine z_bipush C (v := 37) d_M_next_605 (by decide) ?_
                      refine z_icmp_eq C (tgt := 628) d_M_next_607 (by decide) (fun q => ?_) (fun q => ?_)
                      · replace hw := hw.1 q
                        refine z_le (lv2 := [some (.ref (E.2.2.1 39)), some (.int l1), none, none]) (⟨rfl, ⟨rfl, trivial⟩⟩) ?_
                        exact w_M_next_628 hG C hr _ _ hw
                      · replace hw := hw.2 q
                        refine z_iload_n C (i := 1) d_M_next_610 rfl rfl ?_
                        refine z_bipush C (v := 60) d_M_next_611 (by decide) ?_
                        refine z_icmp_eq C (tgt := 628) d_M_next_613 (by decide) (fun q => ?_) (fun q => ?_)
                        · replace hw := hw.1 q
                          refine z_le (lv2 := [some (.ref (E.2.2.1 39)), some (.int l1), none, none]) (⟨rfl, ⟨rfl, trivial⟩⟩) ?_
                          exact w_M_next_628 hG C hr _ _ hw
                        · replace hw := hw.2 q
                          refine z_iload_n C (i := 1) d_M_next_616 rfl rfl ?_
                          refine z_bipush C (v := 62) d_M_next_617 (by decide) ?_
                          refine z_icmp_eq C (tgt := 628) d_M_next_619 (by decide) (fun q => ?_) (fun q => ?_)
                          · replace hw := hw.1 q
                            refine z_le (lv2 := [some (.ref (E.2.2.1 39)), some (.int l1), none, none]) (⟨rfl, ⟨rfl, trivial⟩⟩) ?_
                            exact w_M_next_628 hG C hr _ _ hw
                          · replace hw := hw.2 q
                            refine z_iload_n C (i := 1) d_M_next_622 rfl rfl ?_
                            refine z_bipush C (v := 33) d_M_next_623 (by decide) ?_
                            refine z_icmp_ne C (tgt := 632) d_M_next_625 (by decide) (fun q => ?_) (fun q => ?_)
                            · replace hw := hw.1 q
                              refine z_iconst C (v := 0) d_M_next_632 (by decide) ?_
                              refine z_le (lv2 := [some (.ref (E.2.2.1 39)), some (.int l1), none, none]) (⟨rfl, ⟨rfl, trivial⟩⟩) ?_
                              exact w_M_next_633 hG C hr _ _ _ hw
                            · replace hw := hw.2 q
                              refine z_le (lv2 := [some (.ref (E.2.2.1 39)), some (.int l1), none, none]) (⟨rfl, ⟨rfl, trivial⟩⟩) ?_
                              exact w_M_next_628 hG C hr _ _ hw
  · replace hw := hw.2 q
    refine z_aload_n C (i := 0) d_M_next_539 rfl rfl ?_
    refine z_aload_n C (i := 0) d_M_next_540 rfl rfl ?_
    refine z_getI C (ci := 8) (j := 9) (F := cf_M) (by decide) rfl rfl in_M (by decide) fl_M_93 rfl d_M_next_541 ?_
    refine z_iconst C (v := 2) d_M_next_544 (by decide) ?_
    refine z_iadd C d_M_next_545 ?_
    refine z_putI C (ci := 8) (j := 10) (F := cf_M) ct_M (by decide) rfl rfl in_M ty_M nm_M (by decide) fl_M_96 rfl (by decide +kernel) rfl d_M_next_546 (fun h17 eh17 => ?_)
    replace hw := hw h17 eh17
    exact z_vret C hr d_M_next_549 hw
set_option maxRecDepth 100000 in
set_option maxHeartbeats 4000000 in
theorem w_M_next_525 {l : Launch} {E : zE} {G : (Nat → Prop) → State → Prop} {p : Program} {e : Env} {s : State} {m : MethodId} {args : Array Value} {below : List Frame} {meth : Method} {c : Code} {A : Nat → Prop} {post : zH → Prop} (hG : xGG E G) (C : zCx p s m args meth c E G A 2 44 prog_10_method_10_code 4 cn_M) (hr : meth.sig.returnType = none)  (l1 : Int32) (h : zH) (hw : b_M_next_525 post l1 h) : zGo p l e s m args below meth c E A 2 44 4 (zPv post) h 525 [some (.ref (E.2.2.1 39)), some (.int l1), none, none] [.ref (E.2.2.1 39)] := by
  unfold b_M_next_525 at hw
  refine z_bipush C (v := 7) d_M_next_525 (by decide) ?_
  refine z_le (lv2 := [some (.ref (E.2.2.1 39)), some (.int l1), none, none]) (⟨rfl, ⟨rfl, trivial⟩⟩) ?_
  exact w_M_next_527 hG C hr _ _ _ hw
set_option maxRecDepth 100000 in
set_option maxHeartbeats 4000000 in
theorem w_M_next_507 {l : Launch} {E : zE} {G : (Nat → Prop) → State → Prop} {p : Program} {e : Env} {s : State} {m : MethodId} {args : Array Value} {below : List Frame} {meth : Method} {c : Code} {A : Nat → Prop} {post : zH → Prop} (hG : xGG E G) (C : zCx p s m args meth c E G A 2 44 prog_10_method_10_code 4 cn_M) (hr : meth.sig.returnType = none)  (l1 : Int32) (l2 : Int32) (h : zH) (hw : b_M_next_507 post l1 l2 h) : zGo p l e s m args below meth c E A 2 44 4 (zPv post) h 507 [some (.ref (E.2.2.1 39)), some (.int l1), some (.int l2), none] [.ref (E.2.2.1 39)] := by
  unfold b_M_next_507 at hw
  refine z_iload_n C (i := 1) d_M_next_507 rfl rfl ?_
  refine z_bipush C (v := 124) d_M_next_508 (by decide) ?_
  refine z_icmp_ne C (tgt := 525) d_M_next_510 (by decide) (fun q => ?_) (fun q => ?_)
  · replace hw := hw.1 q
    refine z_le (lv2 := [some (.ref (E.2.2.1 39)), some (.int l1), none, none]) (⟨rfl, ⟨rfl, trivial⟩⟩) ?_
    exact w_M_next_525 hG C hr _ _ hw
  · replace hw := hw.2 q
    refine z_iload_n C (i := 2) d_M_next_513 rfl rfl ?_
    refine z_bipush C (v := 124) d_M_next_514 (by decide) ?_
    refine z_icmp_ne C (tgt := 525) d_M_next_516 (by decide) (fun q => ?_) (fun q => ?_)
    · replace hw := hw.1 q
      refine z_le (lv2 := [some (.ref (E.2.2.1 39)), some (.int l1), none, none]) (⟨rfl, ⟨rfl, trivial⟩⟩) ?_
      exact w_M_next_525 hG C hr _ _ hw
    · replace hw := hw.2 q
      refine z_sipush C (v := 205) d_M_next_519 (by decide) ?_
      refine z_goto C (tgt := 527) d_M_next_522 (by decide) ?_
      refine z_le (lv2 := [some (.ref (E.2.2.1 39)), some (.int l1), none, none]) (⟨rfl, ⟨rfl, trivial⟩⟩) ?_
      exact w_M_next_527 hG C hr _ _ _ hw
set_option maxRecDepth 100000 in
set_option maxHeartbeats 4000000 in
theorem w_M_next_489 {l : Launch} {E : zE} {G : (Nat → Prop) → State → Prop} {p : Program} {e : Env} {s : State} {m : MethodId} {args : Array Value} {below : List Frame} {meth : Method} {c : Code} {A : Nat → Prop} {post : zH → Prop} (hG : xGG E G) (C : zCx p s m args meth c E G A 2 44 prog_10_method_10_code 4 cn_M) (hr : meth.sig.returnType = none)  (l1 : Int32) (l2 : Int32) (h : zH) (hw : b_M_next_489 post l1 l2 h) : zGo p l e s m args below meth c E A 2 44 4 (zPv post) h 489 [some (.ref (E.2.2.1 39)), some (.int l1), some (.int l2), none] [.ref (E.2.2.1 39)] := by
  unfold b_M_next_489 at hw
  refine z_iload_n C (i := 1) d_M_next_489 rfl rfl ?_
  refine z_bipush C (v := 38) d_M_next_490 (by decide) ?_
  refine z_icmp_ne C (tgt := 507) d_M_next_492 (by decide) (fun q => ?_) (fun q => ?_)
  · replace hw := hw.1 q
    refine z_le (lv2 := [some (.ref (E.2.2.1 39)), some (.int l1), some (.int l2), none]) (⟨rfl, ⟨rfl, ⟨rfl, trivial⟩⟩⟩) ?_
    exact w_M_next_507 hG C hr _ _ _ hw
  · replace hw := hw.2 q
    refine z_iload_n C (i := 2) d_M_next_495 rfl rfl ?_
    refine z_bipush C (v := 38) d_M_next_496 (by decide) ?_
    refine z_icmp_ne C (tgt := 507) d_M_next_498 (by decide) (fun q => ?_) (fun q => ?_)
    · replace hw := hw.1 q
      refine z_le (lv2 := [some (.ref (E.2.2.1 39)), some (.int l1), some (.int l2), none]) (⟨rfl, ⟨rfl, ⟨rfl, trivial⟩⟩⟩) ?_
      exact w_M_next_507 hG C hr _ _ _ hw
    · replace hw := hw.2 q
      refine z_sipush C (v := 204) d_M_next_501 (by decide) ?_
      refine z_goto C (tgt := 527) d_M_next_504 (by decide) ?_
      refine z_le (lv2 := [some (.ref (E.2.2.1 39)), some (.int l1), none, none]) (⟨rfl, ⟨rfl, trivial⟩⟩) ?_
      exact w_M_next_527 hG C hr _ _ _ hw
set_option maxRecDepth 100000 in
set_option maxHeartbeats 4000000 in
theorem w_M_next_471 {l : Launch} {E : zE} {G : (Nat → Prop) → State → Prop} {p : Program} {e : Env} {s : State} {m : MethodId} {args : Array Value} {below : List Frame} {meth : Method} {c : Code} {A : Nat → Prop} {post : zH → Prop} (hG : xGG E G) (C : zCx p s m args meth c E G A 2 44 prog_10_method_10_code 4 cn_M) (hr : meth.sig.returnType = none)  (l1 : Int32) (l2 : Int32) (h : zH) (hw : b_M_next_471 post l1 l2 h) : zGo p l e s m args below meth c E A 2 44 4 (zPv post) h 471 [some (.ref (E.2.2.1 39)), some (.int l1), some (.int l2), none] [.ref (E.2.2.1 39)] := by
  unfold b_M_next_471 at hw
  refine z_iload_n C (i := 1) d_M_next_471 rfl rfl ?_
  refine z_bipush C (v := 33) d_M_next_472 (by decide) ?_
  refine z_icmp_ne C (tgt := 489) d_M_next_474 (by decide) (fun q => ?_) (fun q => ?_)
  · replace hw := hw.1 q
    refine z_le (lv2 := [some (.ref (E.2.2.1 39)), some (.int l1), some (.int l2), none]) (⟨rfl, ⟨rfl, ⟨rfl, trivial⟩⟩⟩) ?_
    exact w_M_next_489 hG C hr _ _ _ hw
  · replace hw := hw.2 q
    refine z_iload_n C (i := 2) d_M_next_477 rfl rfl ?_
    refine z_bipush C (v := 61) d_M_next_478 (by decide) ?_
    refine z_icmp_ne C (tgt := 489) d_M_next_480 (by decide) (fun q => ?_) (fun q => ?_)
    · replace hw := hw.1 q
      refine z_le (lv2 := [some (.ref (E.2.2.1 39)), some (.int l1), some (.int l2), none]) (⟨rfl, ⟨rfl, ⟨rfl, trivial⟩⟩⟩) ?_
      exact w_M_next_489 hG C hr _ _ _ hw
    · replace hw := hw.2 q
      refine z_sipush C (v := 203) d_M_next_483 (by decide) ?_
      refine z_goto C (tgt := 527) d_M_next_486 (by decide) ?_
      refine z_le (lv2 := [some (.ref (E.2.2.1 39)), some (.int l1), none, none]) (⟨rfl, ⟨rfl, trivial⟩⟩) ?_
      exact w_M_next_527 hG C hr _ _ _ hw
set_option maxRecDepth 100000 in
set_option maxHeartbeats 4000000 in
theorem w_M_next_453 {l : Launch} {E : zE} {G : (Nat → Prop) → State → Prop} {p : Program} {e : Env} {s : State} {m : MethodId} {args : Array Value} {below : List Frame} {meth : Method} {c : Code} {A : Nat → Prop} {post : zH → Prop} (hG : xGG E G) (C : zCx p s m args meth c E G A 2 44 prog_10_method_10_code 4 cn_M) (hr : meth.sig.returnType = none)  (l1 : Int32) (l2 : Int32) (h : zH) (hw : b_M_next_453 post l1 l2 h) : zGo p l e s m args below meth c E A 2 44 4 (zPv post) h 453 [some (.ref (E.2.2.1 39)), some (.int l1), some (.int l2), none] [.ref (E.2.2.1 39)] := by
  unfold b_M_next_453 at hw
  refine z_iload_n C (i := 1) d_M_next_453 rfl rfl ?_
  refine z_bipush C (v := 61) d_M_next_454 (by decide) ?_
  refine z_icmp_ne C (tgt := 471) d_M_next_456 (by decide) (fun q => ?_) (fun q => ?_)
  · replace hw := hw.1 q
    refine z_le (lv2 := [some (.ref (E.2.2.1 39)), some (.int l1), some (.int l2), none]) (⟨rfl, ⟨rfl, ⟨rfl, trivial⟩⟩⟩) ?_
    exact w_M_next_471 hG C hr _ _ _ hw
  · replace hw := hw.2 q
    refine z_iload_n C (i := 2) d_M_next_459 rfl rfl ?_
    refine z_bipush C (v := 61) d_M_next_460 (by decide) ?_
    refine z_icmp_ne C (tgt := 471) d_M_next_462 (by decide) (fun q => ?_) (fun q => ?_)
    · replace hw := hw.1 q
      refine z_le (lv2 := [some (.ref (E.2.2.1 39)), some (.int l1), some (.int l2), none]) (⟨rfl, ⟨rfl, ⟨rfl, trivial⟩⟩⟩) ?_
      exact w_M_next_471 hG C hr _ _ _ hw
    · replace hw := hw.2 q
      refine z_sipush C (v := 202) d_M_next_465 (by decide) ?_
      refine z_goto C (tgt := 527) d_M_next_468 (by decide) ?_
      refine z_le (lv2 := [some (.ref (E.2.2.1 39)), some (.int l1), none, none]) (⟨rfl, ⟨rfl, trivial⟩⟩) ?_
      exact w_M_next_527 hG C hr _ _ _ hw
set_option maxRecDepth 100000 in
set_option maxHeartbeats 4000000 in
theorem w_M_next_435 {l : Launch} {E : zE} {G : (Nat → Prop) → State → Prop} {p : Program} {e : Env} {s : State} {m : MethodId} {args : Array Value} {below : List Frame} {meth : Method} {c : Code} {A : Nat → Prop} {post : zH → Prop} (hG : xGG E G) (C : zCx p s m args meth c E G A 2 44 prog_10_method_10_code 4 cn_M) (hr : meth.sig.returnType = none)  (l1 : Int32) (l2 : Int32) (h : zH) (hw : b_M_next_435 post l1 l2 h) : zGo p l e s m args below meth c E A 2 44 4 (zPv post) h 435 [some (.ref (E.2.2.1 39)), some (.int l1), some (.int l2), none] [.ref (E.2.2.1 39)] := by
  unfold b_M_next_435 at hw
  refine z_iload_n C (i := 1) d_M_next_435 rfl rfl ?_
  refine z_bipush C (v := 62) d_M_next_436 (by decide) ?_
  refine z_icmp_ne C (tgt := 453) d_M_next_438 (by decide) (fun q => ?_) (fun q => ?_)
  · replace hw := hw.1 q
    refine z_le (lv2 := [some (.ref (E.2.2.1 39)), some (.int l1), some (.int l2), none]) (⟨rfl, ⟨rfl, ⟨rfl, trivial⟩⟩⟩) ?_
    exact w_M_next_453 hG C hr _ _ _ hw
  · replace hw := hw.2 q
    refine z_iload_n C (i := 2) d_M_next_441 rfl rfl ?_
    refine z_bipush C (v := 61) d_M_next_442 (by decide) ?_
    refine z_icmp_ne C (tgt := 453) d_M_next_444 (by decide) (fun q => ?_) (fun q => ?_)
    · replace hw := hw.1 q
      refine z_le (lv2 := [some (.ref (E.2.2.1 39)), some (.int l1), some (.int l2), none]) (⟨rfl, ⟨rfl, ⟨rfl, trivial⟩⟩⟩) ?_
      exact w_M_next_453 hG C hr _ _ _ hw
    · replace hw := hw.2 q
      refine z_sipush C (v := 201) d_M_next_447 (by decide) ?_
      refine z_goto C (tgt := 527) d_M_next_450 (by decide) ?_
      refine z_le (lv2 := [some (.ref (E.2.2.1 39)), some (.int l1), none, none]) (⟨rfl, ⟨rfl, trivial⟩⟩) ?_
      exact w_M_next_527 hG C hr _ _ _ hw
set_option maxRecDepth 100000 in
set_option maxHeartbeats 4000000 in
theorem w_M_next_338 {l : Launch} {E : zE} {G : (Nat → Prop) → State → Prop} {p : Program} {e : Env} {s : State} {m : MethodId} {args : Array Value} {below : List Frame} {meth : Method} {c : Code} {A : Nat → Prop} {post : zH → Prop} (hG : xGG E G) (C : zCx p s m args meth c E G A 2 44 prog_10_method_10_code 4 cn_M) (hr : meth.sig.returnType = none)  (l1 : Int32) (l2 : Int32) (h : zH) (hw : b_M_next_338 post l1 l2 h) : zGo p l e s m args below meth c E A 2 44 4 (zPv post) h 338 [some (.ref (E.2.2.1 39)), some (.int l1), some (.int l2), none] [] := by
  unfold b_M_next_338 at hw
  refine z_aload_n C (i := 0) d_M_next_338 rfl rfl ?_
  refine z_bipush C (v := 109) d_M_next_339 (by decide) ?_
  refine z_bipush C (v := 105) d_M_next_341 (by decide) ?_
  refine z_bipush C (v := 110) d_M_next_343 (by decide) ?_
  refine z_callVi ⟨xN_ok, hG.1⟩ zT_good C (t_M_stands hG hw) ol_M_114 (by decide) rfl rfl (by decide) (by decide) pl_M_stands rfl rfl (Nat.le_of_ble_eq_true rfl) d_M_next_345 (fun r18 h19 hw => ?_)
  refine z_if_ne C (tgt := 377) d_M_next_348 (by decide) (fun q => ?_) (fun q => ?_)
  · replace hw := hw.1 q
    refine z_le (lv2 := [some (.ref (E.2.2.1 39)), some (.int l1), some (.int l2), none]) (⟨rfl, ⟨rfl, ⟨rfl, trivial⟩⟩⟩) ?_
    exact w_M_next_377 hG C hr _ _ _ hw
  · replace hw := hw.2 q
    refine z_aload_n C (i := 0) d_M_next_351 rfl rfl ?_
    refine z_bipush C (v := 109) d_M_next_352 (by decide) ?_
    refine z_bipush C (v := 97) d_M_next_354 (by decide) ?_
    refine z_bipush C (v := 120) d_M_next_356 (by decide) ?_
    refine z_callVi ⟨xN_ok, hG.1⟩ zT_good C (t_M_stands hG hw) ol_M_114 (by decide) rfl rfl (by decide) (by decide) pl_M_stands rfl rfl (Nat.le_of_ble_eq_true rfl) d_M_next_358 (fun r20 h21 hw => ?_)
    refine z_if_ne C (tgt := 377) d_M_next_361 (by decide) (fun q => ?_) (fun q => ?_)
    · replace hw := hw.1 q
      refine z_le (lv2 := [some (.ref (E.2.2.1 39)), some (.int l1), some (.int l2), none]) (⟨rfl, ⟨rfl, ⟨rfl, trivial⟩⟩⟩) ?_
      exact w_M_next_377 hG C hr _ _ _ hw
    · replace hw := hw.2 q
      refine z_aload_n C (i := 0) d_M_next_364 rfl rfl ?_
      refine z_bipush C (v := 97) d_M_next_365 (by decide) ?_
      refine z_bipush C (v := 98) d_M_next_367 (by decide) ?_
      refine z_bipush C (v := 115) d_M_next_369 (by decide) ?_
      refine z_callVi ⟨xN_ok, hG.1⟩ zT_good C (t_M_stands hG hw) ol_M_114 (by decide) rfl rfl (by decide) (by decide) pl_M_stands rfl rfl (Nat.le_of_ble_eq_true rfl) d_M_next_371 (fun r22 h23 hw => ?_)
      refine z_if_eq C (tgt := 416) d_M_next_374 (by decide) (fun q => ?_) (fun q => ?_)
      · replace hw := hw.1 q
        refine z_aload_n C (i := 0) d_M_next_416 rfl rfl ?_
        refine z_iload_n C (i := 1) d_M_next_417 rfl rfl ?_
        refine z_bipush C (v := 60) d_M_next_418 (by decide) ?_
        refine z_icmp_ne C (tgt := 435) d_M_next_420 (by decide) (fun q => ?_) (fun q => ?_)
        · replace hw := hw.1 q
          refine z_le (lv2 := [some (.ref (E.2.2.1 39)), some (.int l1), some (.int l2), none]) (⟨rfl, ⟨rfl, ⟨rfl, trivial⟩⟩⟩) ?_
          exact w_M_next_435 hG C hr _ _ _ hw
        · replace hw := hw.2 q
          refine z_iload_n C (i := 2) d_M_next_423 rfl rfl ?_
          refine z_bipush C (v := 61) d_M_next_424 (by decide) ?_
          refine z_icmp_ne C (tgt := 435) d_M_next_426 (by decide) (fun q => ?_) (fun q => ?_)
          · replace hw := hw.1 q
            refine z_le (lv2 := [some (.ref (E.2.2.1 39)), some (.int l1), some (.int l2), none]) (⟨rfl, ⟨rfl, ⟨rfl, trivial⟩⟩⟩) ?_
            exact w_M_next_435 hG C hr _ _ _ hw
          · replace hw := hw.2 q
            refine z_sipush C (v := 200) d_M_next_429 (by decide) ?_
            refine z_goto C (tgt := 527) d_M_next_432 (by decide) ?_
            refine z_le (lv2 := [some (.ref (E.2.2.1 39)), some (.int l1), none, none]) (⟨rfl, ⟨rfl, trivial⟩⟩) ?_
            exact w_M_next_527 hG C hr _ _ _ hw
      · replace hw := hw.2 q
        refine z_le (lv2 := [some (.ref (E.2.2.1 39)), some (.int l1), some (.int l2), none]) (⟨rfl, ⟨rfl, ⟨rfl, trivial⟩⟩⟩) ?_
        exact w_M_next_377 hG C hr _ _ _ hw
set_option maxRecDepth 100000 in
set_option maxHeartbeats 4000000 in
theorem w_M_next_8 {l : Launch} {E : zE} {G : (Nat → Prop) → State → Prop} {p : Program} {e : Env} {s : State} {m : MethodId} {args : Array Value} {below : List Frame} {meth : Method} {c : Code} {A : Nat → Prop} {post : zH → Prop} (hG : xGG E G) (C : zCx p s m args meth c E G A 2 44 prog_10_method_10_code 4 cn_M) (hr : meth.sig.returnType = none) : ∀ (n : Nat) (h : zH), b_M_next_8 post n  h → zGo p l e s m args below meth c E A 2 44 4 (zPv post) h 8 [some (.ref (E.2.2.1 39)), none, none, none] [] := by
  intro n
  induction n with
  | zero => intro  h hw; exact False.elim hw
  | succ n hrc =>
    intro  h hw
    unfold b_M_next_8 at hw
    refine z_aload_n C (i := 0) d_M_next_8 rfl rfl ?_
    refine z_aload_n C (i := 0) d_M_next_9 rfl rfl ?_
    refine z_getI C (ci := 8) (j := 9) (F := cf_M) (by decide) rfl rfl in_M (by decide) fl_M_93 rfl d_M_next_10 ?_
    refine z_callVi ⟨xN_ok, hG.1⟩ zT_good C (t_M_at hG hw) ol_M_89 (by decide) rfl rfl (by decide) (by decide) pl_M_at rfl rfl (Nat.le_of_ble_eq_true rfl) d_M_next_13 (fun r24 h25 hw => ?_)
    refine z_bipush C (v := 32) d_M_next_16 (by decide) ?_
    refine z_icmp_ne C (tgt := 34) d_M_next_18 (by decide) (fun q => ?_) (fun q => ?_)
    · replace hw := hw.1 q
      refine z_aload_n C (i := 0) d_M_next_34 rfl rfl ?_
      refine z_aload_n C (i := 0) d_M_next_35 rfl rfl ?_
      refine z_getI C (ci := 8) (j := 9) (F := cf_M) (by decide) rfl rfl in_M (by decide) fl_M_93 rfl d_M_next_36 ?_
      refine z_callVi ⟨xN_ok, hG.1⟩ zT_good C (t_M_at hG hw) ol_M_89 (by decide) rfl rfl (by decide) (by decide) pl_M_at rfl rfl (Nat.le_of_ble_eq_true rfl) d_M_next_39 (fun r26 h27 hw => ?_)
      refine z_istore_n C (i := 1) d_M_next_42 rfl (by decide) rfl ?_
      refine z_aload_n C (i := 0) d_M_next_43 rfl rfl ?_
      refine z_aload_n C (i := 0) d_M_next_44 rfl rfl ?_
      refine z_getI C (ci := 8) (j := 9) (F := cf_M) (by decide) rfl rfl in_M (by decide) fl_M_93 rfl d_M_next_45 ?_
      refine z_iconst C (v := 1) d_M_next_48 (by decide) ?_
      refine z_iadd C d_M_next_49 ?_
      refine z_callVi ⟨xN_ok, hG.1⟩ zT_good C (t_M_at hG hw) ol_M_89 (by decide) rfl rfl (by decide) (by decide) pl_M_at rfl rfl (Nat.le_of_ble_eq_true rfl) d_M_next_50 (fun r28 h29 hw => ?_)
      refine z_istore_n C (i := 2) d_M_next_53 rfl (by decide) rfl ?_
      refine z_aload_n C (i := 0) d_M_next_54 rfl rfl ?_
      refine z_aload_n C (i := 0) d_M_next_55 rfl rfl ?_
      refine z_getI C (ci := 8) (j := 9) (F := cf_M) (by decide) rfl rfl in_M (by decide) fl_M_93 rfl d_M_next_56 ?_
      refine z_iconst C (v := 1) d_M_next_59 (by decide) ?_
      refine z_iadd C d_M_next_60 ?_
      refine z_putI C (ci := 8) (j := 10) (F := cf_M) ct_M (by decide) rfl rfl in_M ty_M nm_M (by decide) fl_M_96 rfl (by decide +kernel) rfl d_M_next_61 (fun h30 eh30 => ?_)
      replace hw := hw h30 eh30
      refine z_aload_n C (i := 0) d_M_next_64 rfl rfl ?_
      refine z_lconst C (v := 0) d_M_next_65 (by decide) ?_
      refine z_putL C (ci := 8) (j := 11) (F := cf_M) ct_M (by decide) rfl rfl in_M ty_M nm_M (by decide) fl_M_99 rfl (by decide +kernel) rfl d_M_next_66 (fun h31 eh31 => ?_)
      replace hw := hw h31 eh31
      refine z_aload_n C (i := 0) d_M_next_69 rfl rfl ?_
      refine z_getI C (ci := 8) (j := 9) (F := cf_M) (by decide) rfl rfl in_M (by decide) fl_M_93 rfl d_M_next_70 ?_
      refine z_aload_n C (i := 0) d_M_next_73 rfl rfl ?_
      refine z_getI C (ci := 8) (j := 7) (F := cf_M) (by decide) rfl rfl in_M (by decide) fl_M_86 rfl d_M_next_74 ?_
      refine z_icmp_lt C (tgt := 96) d_M_next_77 (by decide) (fun q => ?_) (fun q => ?_)
      · replace hw := hw.1 q
        refine z_aload_n C (i := 0) d_M_next_96 rfl rfl ?_
        refine z_aload_n C (i := 0) d_M_next_97 rfl rfl ?_
        refine z_getI C (ci := 8) (j := 9) (F := cf_M) (by decide) rfl rfl in_M (by decide) fl_M_93 rfl d_M_next_98 ?_
        refine z_callVi ⟨xN_ok, hG.1⟩ zT_good C (t_M_isDigit hG hw) ol_M_106 (by decide) rfl rfl (by decide) (by decide) pl_M_isDigit rfl rfl (Nat.le_of_ble_eq_true rfl) d_M_next_101 (fun r32 h33 hw => ?_)
        refine z_if_eq C (tgt := 217) d_M_next_104 (by decide) (fun q => ?_) (fun q => ?_)
        · replace hw := hw.1 q
          refine z_iload_n C (i := 1) d_M_next_217 rfl rfl ?_
          refine z_bipush C (v := 118) d_M_next_218 (by decide) ?_
          refine z_icmp_ne C (tgt := 338) d_M_next_220 (by decide) (fun q => ?_) (fun q => ?_)
          · replace hw := hw.1 q
            refine z_le (lv2 := [some (.ref (E.2.2.1 39)), some (.int r26), some (.int r28), none]) (⟨rfl, ⟨rfl, ⟨rfl, trivial⟩⟩⟩) ?_
            exact w_M_next_338 hG C hr _ _ _ hw
          · replace hw := hw.2 q
            refine z_aload_n C (i := 0) d_M_next_223 rfl rfl ?_
            refine z_aload_n C (i := 0) d_M_next_224 rfl rfl ?_
            refine z_getI C (ci := 8) (j := 9) (F := cf_M) (by decide) rfl rfl in_M (by decide) fl_M_93 rfl d_M_next_225 ?_
            refine z_iconst C (v := 1) d_M_next_228 (by decide) ?_
            refine z_iadd C d_M_next_229 ?_
            refine z_callVi ⟨xN_ok, hG.1⟩ zT_good C (t_M_isDigit hG hw) ol_M_106 (by decide) rfl rfl (by decide) (by decide) pl_M_isDigit rfl rfl (Nat.le_of_ble_eq_true rfl) d_M_next_230 (fun r34 h35 hw => ?_)
            refine z_if_eq C (tgt := 338) d_M_next_233 (by decide) (fun q => ?_) (fun q => ?_)
            · replace hw := hw.1 q
              refine z_le (lv2 := [some (.ref (E.2.2.1 39)), some (.int r26), some (.int r28), none]) (⟨rfl, ⟨rfl, ⟨rfl, trivial⟩⟩⟩) ?_
              exact w_M_next_338 hG C hr _ _ _ hw
            · replace hw := hw.2 q
              refine z_aload_n C (i := 0) d_M_next_236 rfl rfl ?_
              refine z_aload_n C (i := 0) d_M_next_237 rfl rfl ?_
              refine z_aload_n C (i := 0) d_M_next_238 rfl rfl ?_
              refine z_getI C (ci := 8) (j := 9) (F := cf_M) (by decide) rfl rfl in_M (by decide) fl_M_93 rfl d_M_next_239 ?_
              refine z_iconst C (v := 2) d_M_next_242 (by decide) ?_
              refine z_iadd C d_M_next_243 ?_
              refine z_callVi ⟨xN_ok, hG.1⟩ zT_good C (t_M_isDigit hG hw) ol_M_106 (by decide) rfl rfl (by decide) (by decide) pl_M_isDigit rfl rfl (Nat.le_of_ble_eq_true rfl) d_M_next_244 (fun r36 h37 hw => ?_)
              refine z_if_eq C (tgt := 259) d_M_next_247 (by decide) (fun q => ?_) (fun q => ?_)
              · replace hw := hw.1 q
                refine z_aload_n C (i := 0) d_M_next_259 rfl rfl ?_
                refine z_getI C (ci := 8) (j := 9) (F := cf_M) (by decide) rfl rfl in_M (by decide) fl_M_93 rfl d_M_next_260 ?_
                refine z_iconst C (v := 2) d_M_next_263 (by decide) ?_
                refine z_iadd C d_M_next_264 ?_
                refine z_le (lv2 := [some (.ref (E.2.2.1 39)), none, none, none]) (⟨rfl, trivial⟩) ?_
                exact w_M_next_265 hG C hr _ _ hw
              · replace hw := hw.2 q
                refine z_aload_n C (i := 0) d_M_next_250 rfl rfl ?_
                refine z_getI C (ci := 8) (j := 9) (F := cf_M) (by decide) rfl rfl in_M (by decide) fl_M_93 rfl d_M_next_251 ?_
                refine z_iconst C (v := 3) d_M_next_254 (by decide) ?_
                refine z_iadd C d_M_next_255 ?_
                refine z_goto C (tgt := 265) d_M_next_256 (by decide) ?_
                refine z_le (lv2 := [some (.ref (E.2.2.1 39)), none, none, none]) (⟨rfl, trivial⟩) ?_
                exact w_M_next_265 hG C hr _ _ hw
        · replace hw := hw.2 q
          refine z_aload_n C (i := 0) d_M_next_107 rfl rfl ?_
          refine z_aload_n C (i := 0) d_M_next_108 rfl rfl ?_
          refine z_getI C (ci := 8) (j := 9) (F := cf_M) (by decide) rfl rfl in_M (by decide) fl_M_93 rfl d_M_next_109 ?_
          refine z_putI C (ci := 8) (j := 10) (F := cf_M) ct_M (by decide) rfl rfl in_M ty_M nm_M (by decide) fl_M_96 rfl (by decide +kernel) rfl d_M_next_112 (fun h38 eh38 => ?_)
          replace hw := hw h38 eh38
          refine z_le (lv2 := [some (.ref (E.2.2.1 39)), none, none, none]) (⟨rfl, trivial⟩) ?_
          obtain ⟨n, hw⟩ := hw
          exact w_M_next_115 hG C hr n  _ hw
      · replace hw := hw.2 q
        refine z_aload_n C (i := 0) d_M_next_80 rfl rfl ?_
        refine z_iconst C (v := 1) d_M_next_81 (by decide) ?_
        refine z_putI C (ci := 8) (j := 8) (F := cf_M) ct_M (by decide) rfl rfl in_M ty_M nm_M (by decide) fl_M_103 rfl (by decide +kernel) rfl d_M_next_82 (fun h39 eh39 => ?_)
        replace hw := hw h39 eh39
        refine z_aload_n C (i := 0) d_M_next_85 rfl rfl ?_
        refine z_aload_n C (i := 0) d_M_next_86 rfl rfl ?_
        refine z_getI C (ci := 8) (j := 9) (F := cf_M) (by decide) rfl rfl in_M (by decide) fl_M_93 rfl d_M_next_87 ?_
        refine z_putI C (ci := 8) (j := 10) (F := cf_M) ct_M (by decide) rfl rfl in_M ty_M nm_M (by decide) fl_M_96 rfl (by decide +kernel) rfl d_M_next_90 (fun h40 eh40 => ?_)
        replace hw := hw h40 eh40
        refine z_goto C (tgt := 648) d_M_next_93 (by decide) ?_
        refine z_le (lv2 := [none, none, none, none]) (trivial) ?_
        exact w_M_next_648 hG C hr  _ hw
    · replace hw := hw.2 q
      refine z_aload_n C (i := 0) d_M_next_21 rfl rfl ?_
      refine z_dup C d_M_next_22 rfl ?_
      refine z_getI C (ci := 8) (j := 9) (F := cf_M) (by decide) rfl rfl in_M (by decide) fl_M_93 rfl d_M_next_23 ?_
      refine z_iconst C (v := 1) d_M_next_26 (by decide) ?_
      refine z_iadd C d_M_next_27 ?_
      refine z_putI C (ci := 8) (j := 9) (F := cf_M) ct_M (by decide) rfl rfl in_M ty_M nm_M (by decide) fl_M_93 rfl (by decide +kernel) rfl d_M_next_28 (fun h41 eh41 => ?_)
      replace hw := hw h41 eh41
      refine z_goto C (tgt := 8) d_M_next_31 (by decide) ?_
      refine z_le (lv2 := [some (.ref (E.2.2.1 39)), none, none, none]) (⟨rfl, trivial⟩) ?_
      exact hrc  _ hw
set_option maxRecDepth 100000 in
set_option maxHeartbeats 4000000 in
theorem t_M_next {l : Launch} {E : zE} {G : (Nat → Prop) → State → Prop} (hG : xGG E G) {h : zH} {post : zH → Prop} (hw : wp_M_next  h post) : Ct l xX E xcl xN zT G 2 44 y_M_next prog_10_method_10_code 4 none [.ref (E.2.2.1 39)] h (zPv post) := by
  unfold wp_M_next at hw
  refine Ct.of (by decide) (Nat.le_of_ble_eq_true rfl) ?_
  intro p e s m below meth c A C hr
  refine z_lv (lv2 := [some (.ref (E.2.2.1 39)), none, none, none]) rfl ?_
  refine z_aload_n C (i := 0) d_M_next_0 rfl rfl ?_
  refine z_aload_n C (i := 0) d_M_next_1 rfl rfl ?_
  refine z_getI C (ci := 8) (j := 10) (F := cf_M) (by decide) rfl rfl in_M (by decide) fl_M_96 rfl d_M_next_2 ?_
  refine z_putI C (ci := 8) (j := 9) (F := cf_M) ct_M (by decide) rfl rfl in_M ty_M nm_M (by decide) fl_M_93 rfl (by decide +kernel) rfl d_M_next_5 (fun h42 eh42 => ?_)
  replace hw := hw h42 eh42
  refine z_le (lv2 := [some (.ref (E.2.2.1 39)), none, none, none]) (⟨rfl, trivial⟩) ?_
  obtain ⟨n, hw⟩ := hw
  exact w_M_next_8 hG C hr n  _ hw
