theorem df_R : ∀ j, j < 5 → defaultValue (ct_R j) = vp_V [.null, .null, .null, .null, .null] j := by
  intro j hj
  rcases (show j = 0 ∨ j = 1 ∨ j = 2 ∨ j = 3 ∨ j = 4 by omega) with rfl | rfl | rfl | rfl | rfl <;> rfl
theorem df_V : ∀ j, j < 4 → defaultValue (ct_V j) = vp_V [.null, .null, .null, .int 0] j := by
  intro j hj
  rcases (show j = 0 ∨ j = 1 ∨ j = 2 ∨ j = 3 by omega) with rfl | rfl | rfl | rfl <;> rfl
theorem df_A : ∀ j, j < 2 → defaultValue (ct_A j) = vp_V [.null, .int 0] j := by
  intro j hj
  rcases (show j = 0 ∨ j = 1 by omega) with rfl | rfl <;> rfl
theorem df_T : ∀ j, j < 11 → defaultValue (ct_T j) = vp_V [.null, .null, .null, .null, .null, .null, .null, .null, .null, .null, .int 0] j := by
  intro j hj
  rcases (show j = 0 ∨ j = 1 ∨ j = 2 ∨ j = 3 ∨ j = 4 ∨ j = 5 ∨ j = 6 ∨ j = 7 ∨ j = 8 ∨ j = 9 ∨ j = 10 by omega) with rfl | rfl | rfl | rfl | rfl | rfl | rfl | rfl | rfl | rfl | rfl <;> rfl
theorem df_P : ∀ j, j < 11 → defaultValue (ct_P j) = vp_V [.null, .null, .null, .null, .int 0, .null, .null, .null, .null, .int 0, .int 0] j := by
  intro j hj
  rcases (show j = 0 ∨ j = 1 ∨ j = 2 ∨ j = 3 ∨ j = 4 ∨ j = 5 ∨ j = 6 ∨ j = 7 ∨ j = 8 ∨ j = 9 ∨ j = 10 by omega) with rfl | rfl | rfl | rfl | rfl | rfl | rfl | rfl | rfl | rfl | rfl <;> rfl
theorem df_K : ∀ j, j < 5 → defaultValue (ct_K j) = vp_V [.null, .int 0, .int 0, .int 0, .int 0] j := by
  intro j hj
  rcases (show j = 0 ∨ j = 1 ∨ j = 2 ∨ j = 3 ∨ j = 4 by omega) with rfl | rfl | rfl | rfl | rfl <;> rfl
theorem df_G : ∀ j, j < 5 → defaultValue (ct_G j) = vp_V [.null, .null, .null, .int 0, .int 0] j := by
  intro j hj
  rcases (show j = 0 ∨ j = 1 ∨ j = 2 ∨ j = 3 ∨ j = 4 by omega) with rfl | rfl | rfl | rfl | rfl <;> rfl
theorem df_N : ∀ j, j < 2 → defaultValue (ct_N j) = vp_V [.long 0, .long 0] j := by
  intro j hj
  rcases (show j = 0 ∨ j = 1 by omega) with rfl | rfl <;> rfl
theorem df_M : ∀ j, j < 35 → defaultValue (ct_M j) = vp_V [.int 0, .int 0, .null, .null, .null, .null, .int 0, .int 0, .int 0, .int 0, .int 0, .long 0, .null, .null, .null, .null, .null, .null, .null, .null, .null, .null, .int 0, .int 0, .int 0, .null, .null, .null, .int 0, .null, .int 0, .int 0, .long 0, .long 0, .null] j := by
  intro j hj
  rcases (show j = 0 ∨ j = 1 ∨ j = 2 ∨ j = 3 ∨ j = 4 ∨ j = 5 ∨ j = 6 ∨ j = 7 ∨ j = 8 ∨ j = 9 ∨ j = 10 ∨ j = 11 ∨ j = 12 ∨ j = 13 ∨ j = 14 ∨ j = 15 ∨ j = 16 ∨ j = 17 ∨ j = 18 ∨ j = 19 ∨ j = 20 ∨ j = 21 ∨ j = 22 ∨ j = 23 ∨ j = 24 ∨ j = 25 ∨ j = 26 ∨ j = 27 ∨ j = 28 ∨ j = 29 ∨ j = 30 ∨ j = 31 ∨ j = 32 ∨ j = 33 ∨ j = 34 by omega) with rfl | rfl | rfl | rfl | rfl | rfl | rfl | rfl | rfl | rfl | rfl | rfl | rfl | rfl | rfl | rfl | rfl | rfl | rfl | rfl | rfl | rfl | rfl | rfl | rfl | rfl | rfl | rfl | rfl | rfl | rfl | rfl | rfl | rfl | rfl <;> rfl
theorem kw_aI : Cond.arrayClass .int ∈ zT := zt_m1 47 rfl rfl
theorem kw_aL : Cond.arrayClass .long ∈ zT := zt_m1 105 rfl rfl
theorem kw_oi : Cond.instanceMethod Lib.objectInit ∈ zT := zt_m1 25 rfl rfl
theorem kw_oc : Cond.code Lib.objectInit ⟨#[0xb1]⟩ 1 none ∈ zT := zt_mem 26 (by decide +kernel) (by decide +kernel)
def y_N_init : MethodName := ⟨cn_N, "<init>", "()V"⟩
theorem kc_N_c : Cond.code y_N_init prog_4_method_1_code 1 none ∈ zT := zt_m1 140 rfl rfl
theorem kc_N_i : Cond.instanceMethod y_N_init ∈ zT := zt_m1 139 rfl rfl
theorem kc_N_n : Cond.initialized y_N_init.cls ∈ zT := zt_m1 7 rfl rfl
theorem kc_N_p : y_N_init.cls ≠ "java/lang/invoke/MethodHandle" ∧ y_N_init.cls ≠ "java/lang/invoke/VarHandle" ∧ (parseMethodDescriptor y_N_init.desc).map (fun d => d.parameters.length) = some 0 := by decide +kernel
theorem dk_N_0 : decode prog_4_method_1_code 0 = .ok (.aload_n 0, 1) := by decide +kernel
theorem dk_N_1 : decode prog_4_method_1_code 1 = .ok (.invokespecial 3, 3) := by decide +kernel
theorem kw_N_ob : Cond.methodLink cn_N 3 Lib.objectInit ∈ zT := zt_m1 141 rfl rfl
theorem dk_N_4 : decode prog_4_method_1_code 4 = .ok (.aload_n 0, 1) := by decide +kernel
theorem dk_N_5 : decode prog_4_method_1_code 5 = .ok (.lconst 0, 1) := by decide +kernel
theorem kw_N_f9 : Cond.fieldLink cn_N 9 cn_N "low" "J" ∈ zT := zt_m1 142 rfl rfl
theorem dk_N_6 : decode prog_4_method_1_code 6 = .ok (.putfield 9, 3) := by decide +kernel
theorem dk_N_9 : decode prog_4_method_1_code 9 = .ok (.aload_n 0, 1) := by decide +kernel
theorem dk_N_10 : decode prog_4_method_1_code 10 = .ok (.lconst 0, 1) := by decide +kernel
theorem kw_N_f15 : Cond.fieldLink cn_N 15 cn_N "high" "J" ∈ zT := zt_m1 144 rfl rfl
theorem dk_N_11 : decode prog_4_method_1_code 11 = .ok (.putfield 15, 3) := by decide +kernel
theorem dk_N_14 : decode prog_4_method_1_code 14 = .ok (.return_, 1) := by decide +kernel
def ou_N (E : zE) (b : Nat) (u : List Nat) : va_W := [(b, .inr (7, [.long 0, .long 0]))]
set_option maxRecDepth 100000 in
set_option maxHeartbeats 4000000 in
theorem k_N {l : Launch} {E : zE} {G : (Nat → Prop) → State → Prop} (hGr : zGr G) (b : Nat) : Ck l E xcl xN zT G 1 30 0 0 y_N_init prog_4_method_1_code 1 7 [.long 0, .long 0] b [] (ou_N E b) := by
  refine Ck.of (by decide) (Nat.le_of_ble_eq_true rfl) xX ?_
  intro p e s m below meth c A C hr hnm
  refine g_lv (lv2 := [some (.ref b)]) rfl ?_
  refine g_aload_n C (i := 0) dk_N_0 rfl rfl ?_
  refine g_objInit C kw_N_ob kw_oi kw_oc dk_N_1 (Nat.le_of_ble_eq_true rfl) (Nat.le_of_ble_eq_true rfl) (Nat.le_of_ble_eq_true rfl) ?_
  refine g_aload_n C (i := 0) dk_N_4 rfl rfl ?_
  refine g_lconst C (v := 0) dk_N_5 (by decide) ?_
  refine g_put C (F := cf_N) (n := 2) (j := 0) (ci := 7) (ty := .long) (v := .long 0) ct_N ty_N nm_N in_N 0 rfl rfl (by decide) kw_N_f9 rfl rfl (by decide +kernel) rfl rfl (Nat.le_of_ble_eq_true rfl) dk_N_6 ?_
  refine g_ws (ws2 := [(b, .inr (7, [.long 0, .long 0]))]) rfl ?_
  refine g_aload_n C (i := 0) dk_N_9 rfl rfl ?_
  refine g_lconst C (v := 0) dk_N_10 (by decide) ?_
  refine g_put C (F := cf_N) (n := 2) (j := 1) (ci := 7) (ty := .long) (v := .long 0) ct_N ty_N nm_N in_N 0 rfl rfl (by decide) kw_N_f15 rfl rfl (by decide +kernel) rfl rfl (Nat.le_of_ble_eq_true rfl) dk_N_11 ?_
  refine g_ws (ws2 := [(b, .inr (7, [.long 0, .long 0]))]) rfl ?_
  exact g_vret C hr dk_N_14 [] rfl (Nat.le_of_ble_eq_true rfl) (Nat.le_of_ble_eq_true rfl)
def y_G_init : MethodName := ⟨cn_G, "<init>", "()V"⟩
theorem kc_G_c : Cond.code y_G_init prog_3_method_1_code 1 none ∈ zT := zt_m1 116 rfl rfl
theorem kc_G_i : Cond.instanceMethod y_G_init ∈ zT := zt_m1 115 rfl rfl
theorem kc_G_n : Cond.initialized y_G_init.cls ∈ zT := zt_m1 6 rfl rfl
theorem kc_G_p : y_G_init.cls ≠ "java/lang/invoke/MethodHandle" ∧ y_G_init.cls ≠ "java/lang/invoke/VarHandle" ∧ (parseMethodDescriptor y_G_init.desc).map (fun d => d.parameters.length) = some 0 := by decide +kernel
theorem dk_G_0 : decode prog_3_method_1_code 0 = .ok (.aload_n 0, 1) := by decide +kernel
theorem dk_G_1 : decode prog_3_method_1_code 1 = .ok (.invokespecial 3, 3) := by decide +kernel
theorem kw_G_ob : Cond.methodLink cn_G 3 Lib.objectInit ∈ zT := zt_m1 117 rfl rfl
theorem dk_G_4 : decode prog_3_method_1_code 4 = .ok (.aload_n 0, 1) := by decide +kernel
theorem dk_G_5 : decode prog_3_method_1_code 5 = .ok (.sipush (197), 3) := by decide +kernel
theorem dk_G_8 : decode prog_3_method_1_code 8 = .ok (.newarray .int, 2) := by decide +kernel
theorem kw_G_f9 : Cond.fieldLink cn_G 9 cn_G "code" "[I" ∈ zT := zt_m1 118 rfl rfl
theorem dk_G_10 : decode prog_3_method_1_code 10 = .ok (.putfield 9, 3) := by decide +kernel
theorem dk_G_13 : decode prog_3_method_1_code 13 = .ok (.aload_n 0, 1) := by decide +kernel
theorem dk_G_14 : decode prog_3_method_1_code 14 = .ok (.sipush (197), 3) := by decide +kernel
theorem dk_G_17 : decode prog_3_method_1_code 17 = .ok (.newarray .int, 2) := by decide +kernel
theorem kw_G_f15 : Cond.fieldLink cn_G 15 cn_G "place" "[I" ∈ zT := zt_m1 119 rfl rfl
theorem dk_G_19 : decode prog_3_method_1_code 19 = .ok (.putfield 15, 3) := by decide +kernel
theorem dk_G_22 : decode prog_3_method_1_code 22 = .ok (.aload_n 0, 1) := by decide +kernel
theorem dk_G_23 : decode prog_3_method_1_code 23 = .ok (.sipush (197), 3) := by decide +kernel
theorem dk_G_26 : decode prog_3_method_1_code 26 = .ok (.newarray .int, 2) := by decide +kernel
theorem kw_G_f18 : Cond.fieldLink cn_G 18 cn_G "awaited" "[I" ∈ zT := zt_m1 120 rfl rfl
theorem dk_G_28 : decode prog_3_method_1_code 28 = .ok (.putfield 18, 3) := by decide +kernel
theorem dk_G_31 : decode prog_3_method_1_code 31 = .ok (.aload_n 0, 1) := by decide +kernel
theorem dk_G_32 : decode prog_3_method_1_code 32 = .ok (.iconst 0, 1) := by decide +kernel
theorem kw_G_f21 : Cond.fieldLink cn_G 21 cn_G "size" "I" ∈ zT := zt_m1 121 rfl rfl
theorem dk_G_33 : decode prog_3_method_1_code 33 = .ok (.putfield 21, 3) := by decide +kernel
theorem dk_G_36 : decode prog_3_method_1_code 36 = .ok (.aload_n 0, 1) := by decide +kernel
theorem dk_G_37 : decode prog_3_method_1_code 37 = .ok (.iconst 0, 1) := by decide +kernel
theorem kw_G_f25 : Cond.fieldLink cn_G 25 cn_G "nested" "I" ∈ zT := zt_m1 123 rfl rfl
theorem dk_G_38 : decode prog_3_method_1_code 38 = .ok (.putfield 25, 3) := by decide +kernel
theorem dk_G_41 : decode prog_3_method_1_code 41 = .ok (.return_, 1) := by decide +kernel
def ou_G (E : zE) (b : Nat) (u : List Nat) : va_W := [(b, .inr (6, [.ref (u.getD 0 0), .ref (u.getD 1 0), .ref (u.getD 2 0), .int 0, .int 0])), ((u.getD 0 0), kI E 197), ((u.getD 1 0), kI E 197), ((u.getD 2 0), kI E 197)]
set_option maxRecDepth 100000 in
set_option maxHeartbeats 4000000 in
theorem k_G {l : Launch} {E : zE} {G : (Nat → Prop) → State → Prop} (hGr : zGr G) (b : Nat) : Ck l E xcl xN zT G 1 30 3 591 y_G_init prog_3_method_1_code 1 6 [.null, .null, .null, .int 0, .int 0] b [] (ou_G E b) := by
  refine Ck.of (by decide) (Nat.le_of_ble_eq_true rfl) xX ?_
  intro p e s m below meth c A C hr hnm
  refine g_lv (lv2 := [some (.ref b)]) rfl ?_
  refine g_aload_n C (i := 0) dk_G_0 rfl rfl ?_
  refine g_objInit C kw_G_ob kw_oi kw_oc dk_G_1 (Nat.le_of_ble_eq_true rfl) (Nat.le_of_ble_eq_true rfl) (Nat.le_of_ble_eq_true rfl) ?_
  refine g_aload_n C (i := 0) dk_G_4 rfl rfl ?_
  refine g_sipush C (v := 197) dk_G_5 (by decide) ?_
  refine g_newI C (n' := 197) kw_aI (by decide) (by decide) (by decide) (Nat.le_of_ble_eq_true rfl) (Nat.le_of_ble_eq_true rfl) dk_G_8 (fun q8 => ?_)
  refine g_ws (ws2 := [(b, .inr (6, [.null, .null, .null, .int 0, .int 0])), (q8, kI E 197)]) rfl ?_
  refine g_putF C (F := cf_G) (n := 5) (j := 0) (ci := 6) (ty := .array .int) (v := .ref q8) hnm ct_G ty_G nm_G in_G 0 rfl rfl (by decide) kw_G_f9 rfl rfl (by decide +kernel) rfl rfl (Nat.le_of_ble_eq_true rfl) dk_G_10 ?_
  refine g_ws (ws2 := [(b, .inr (6, [.ref q8, .null, .null, .int 0, .int 0])), (q8, kI E 197)]) rfl ?_
  refine g_aload_n C (i := 0) dk_G_13 rfl rfl ?_
  refine g_sipush C (v := 197) dk_G_14 (by decide) ?_
  refine g_newI C (n' := 197) kw_aI (by decide) (by decide) (by decide) (Nat.le_of_ble_eq_true rfl) (Nat.le_of_ble_eq_true rfl) dk_G_17 (fun q17 => ?_)
  refine g_ws (ws2 := [(b, .inr (6, [.ref q8, .null, .null, .int 0, .int 0])), (q8, kI E 197), (q17, kI E 197)]) rfl ?_
  refine g_putF C (F := cf_G) (n := 5) (j := 1) (ci := 6) (ty := .array .int) (v := .ref q17) hnm ct_G ty_G nm_G in_G 0 rfl rfl (by decide) kw_G_f15 rfl rfl (by decide +kernel) rfl rfl (Nat.le_of_ble_eq_true rfl) dk_G_19 ?_
  refine g_ws (ws2 := [(b, .inr (6, [.ref q8, .ref q17, .null, .int 0, .int 0])), (q8, kI E 197), (q17, kI E 197)]) rfl ?_
  refine g_aload_n C (i := 0) dk_G_22 rfl rfl ?_
  refine g_sipush C (v := 197) dk_G_23 (by decide) ?_
  refine g_newI C (n' := 197) kw_aI (by decide) (by decide) (by decide) (Nat.le_of_ble_eq_true rfl) (Nat.le_of_ble_eq_true rfl) dk_G_26 (fun q26 => ?_)
  refine g_ws (ws2 := [(b, .inr (6, [.ref q8, .ref q17, .null, .int 0, .int 0])), (q8, kI E 197), (q17, kI E 197), (q26, kI E 197)]) rfl ?_
  refine g_putF C (F := cf_G) (n := 5) (j := 2) (ci := 6) (ty := .array .int) (v := .ref q26) hnm ct_G ty_G nm_G in_G 0 rfl rfl (by decide) kw_G_f18 rfl rfl (by decide +kernel) rfl rfl (Nat.le_of_ble_eq_true rfl) dk_G_28 ?_
  refine g_ws (ws2 := [(b, .inr (6, [.ref q8, .ref q17, .ref q26, .int 0, .int 0])), (q8, kI E 197), (q17, kI E 197), (q26, kI E 197)]) rfl ?_
  refine g_aload_n C (i := 0) dk_G_31 rfl rfl ?_
  refine g_iconst C (v := 0) dk_G_32 (by decide) ?_
  refine g_put C (F := cf_G) (n := 5) (j := 3) (ci := 6) (ty := .int) (v := .int 0) ct_G ty_G nm_G in_G 0 rfl rfl (by decide) kw_G_f21 rfl rfl (by decide +kernel) rfl rfl (Nat.le_of_ble_eq_true rfl) dk_G_33 ?_
  refine g_ws (ws2 := [(b, .inr (6, [.ref q8, .ref q17, .ref q26, .int 0, .int 0])), (q8, kI E 197), (q17, kI E 197), (q26, kI E 197)]) rfl ?_
  refine g_aload_n C (i := 0) dk_G_36 rfl rfl ?_
  refine g_iconst C (v := 0) dk_G_37 (by decide) ?_
  refine g_put C (F := cf_G) (n := 5) (j := 4) (ci := 6) (ty := .int) (v := .int 0) ct_G ty_G nm_G in_G 0 rfl rfl (by decide) kw_G_f25 rfl rfl (by decide +kernel) rfl rfl (Nat.le_of_ble_eq_true rfl) dk_G_38 ?_
  refine g_ws (ws2 := [(b, .inr (6, [.ref q8, .ref q17, .ref q26, .int 0, .int 0])), (q8, kI E 197), (q17, kI E 197), (q26, kI E 197)]) rfl ?_
  exact g_vret C hr dk_G_41 [q8, q17, q26] rfl (Nat.le_of_ble_eq_true rfl) (Nat.le_of_ble_eq_true rfl)
def y_K_init : MethodName := ⟨cn_K, "<init>", "(LRangeReckoner$Tape;)V"⟩
theorem kc_K_c : Cond.code y_K_init prog_7_method_1_code 2 none ∈ zT := zt_m1 155 rfl rfl
theorem kc_K_i : Cond.instanceMethod y_K_init ∈ zT := zt_m1 154 rfl rfl
theorem kc_K_n : Cond.initialized y_K_init.cls ∈ zT := zt_m1 8 rfl rfl
theorem kc_K_p : y_K_init.cls ≠ "java/lang/invoke/MethodHandle" ∧ y_K_init.cls ≠ "java/lang/invoke/VarHandle" ∧ (parseMethodDescriptor y_K_init.desc).map (fun d => d.parameters.length) = some 1 := by decide +kernel
theorem dk_K_0 : decode prog_7_method_1_code 0 = .ok (.aload_n 0, 1) := by decide +kernel
theorem dk_K_1 : decode prog_7_method_1_code 1 = .ok (.invokespecial 3, 3) := by decide +kernel
theorem kw_K_ob : Cond.methodLink cn_K 3 Lib.objectInit ∈ zT := zt_m1 156 rfl rfl
theorem dk_K_4 : decode prog_7_method_1_code 4 = .ok (.aload_n 0, 1) := by decide +kernel
theorem dk_K_5 : decode prog_7_method_1_code 5 = .ok (.iconst 0, 1) := by decide +kernel
theorem kw_K_f9 : Cond.fieldLink cn_K 9 cn_K "next" "I" ∈ zT := zt_m1 158 rfl rfl
theorem dk_K_6 : decode prog_7_method_1_code 6 = .ok (.putfield 9, 3) := by decide +kernel
theorem dk_K_9 : decode prog_7_method_1_code 9 = .ok (.aload_n 0, 1) := by decide +kernel
theorem dk_K_10 : decode prog_7_method_1_code 10 = .ok (.iconst 1, 1) := by decide +kernel
theorem kw_K_f15 : Cond.fieldLink cn_K 15 cn_K "token" "I" ∈ zT := zt_m1 159 rfl rfl
theorem dk_K_11 : decode prog_7_method_1_code 11 = .ok (.putfield 15, 3) := by decide +kernel
theorem dk_K_14 : decode prog_7_method_1_code 14 = .ok (.aload_n 0, 1) := by decide +kernel
theorem dk_K_15 : decode prog_7_method_1_code 15 = .ok (.iconst 0, 1) := by decide +kernel
theorem kw_K_f18 : Cond.fieldLink cn_K 18 cn_K "place" "I" ∈ zT := zt_m1 161 rfl rfl
theorem dk_K_16 : decode prog_7_method_1_code 16 = .ok (.putfield 18, 3) := by decide +kernel
theorem dk_K_19 : decode prog_7_method_1_code 19 = .ok (.aload_n 0, 1) := by decide +kernel
theorem dk_K_20 : decode prog_7_method_1_code 20 = .ok (.iconst 0, 1) := by decide +kernel
theorem kw_K_f21 : Cond.fieldLink cn_K 21 cn_K "number" "I" ∈ zT := zt_m1 163 rfl rfl
theorem dk_K_21 : decode prog_7_method_1_code 21 = .ok (.putfield 21, 3) := by decide +kernel
theorem dk_K_24 : decode prog_7_method_1_code 24 = .ok (.aload_n 0, 1) := by decide +kernel
theorem dk_K_25 : decode prog_7_method_1_code 25 = .ok (.aload_n 1, 1) := by decide +kernel
theorem kw_K_f24 : Cond.fieldLink cn_K 24 cn_K "tape" "LRangeReckoner$Tape;" ∈ zT := zt_m1 157 rfl rfl
theorem dk_K_26 : decode prog_7_method_1_code 26 = .ok (.putfield 24, 3) := by decide +kernel
theorem dk_K_29 : decode prog_7_method_1_code 29 = .ok (.return_, 1) := by decide +kernel
def ou_K (E : zE) (b : Nat) (t : Nat) (u : List Nat) : va_W := [(b, .inr (5, [.ref t, .int 0, .int 1, .int 0, .int 0]))]
set_option maxRecDepth 100000 in
set_option maxHeartbeats 4000000 in
theorem k_K {l : Launch} {E : zE} {G : (Nat → Prop) → State → Prop} (hGr : zGr G) (b : Nat) (t : Nat) : Ck l E xcl xN zT G 1 30 0 0 y_K_init prog_7_method_1_code 2 5 [.null, .int 0, .int 0, .int 0, .int 0] b [.ref t] (ou_K E b t) := by
  refine Ck.of (by decide) (Nat.le_of_ble_eq_true rfl) xX ?_
  intro p e s m below meth c A C hr hnm
  refine g_lv (lv2 := [some (.ref b), some (.ref t)]) rfl ?_
  refine g_aload_n C (i := 0) dk_K_0 rfl rfl ?_
  refine g_objInit C kw_K_ob kw_oi kw_oc dk_K_1 (Nat.le_of_ble_eq_true rfl) (Nat.le_of_ble_eq_true rfl) (Nat.le_of_ble_eq_true rfl) ?_
  refine g_aload_n C (i := 0) dk_K_4 rfl rfl ?_
  refine g_iconst C (v := 0) dk_K_5 (by decide) ?_
  refine g_put C (F := cf_K) (n := 5) (j := 1) (ci := 5) (ty := .int) (v := .int 0) ct_K ty_K nm_K in_K 0 rfl rfl (by decide) kw_K_f9 rfl rfl (by decide +kernel) rfl rfl (Nat.le_of_ble_eq_true rfl) dk_K_6 ?_
  refine g_ws (ws2 := [(b, .inr (5, [.null, .int 0, .int 0, .int 0, .int 0]))]) rfl ?_
  refine g_aload_n C (i := 0) dk_K_9 rfl rfl ?_
  refine g_iconst C (v := 1) dk_K_10 (by decide) ?_
  refine g_put C (F := cf_K) (n := 5) (j := 2) (ci := 5) (ty := .int) (v := .int 1) ct_K ty_K nm_K in_K 0 rfl rfl (by decide) kw_K_f15 rfl rfl (by decide +kernel) rfl rfl (Nat.le_of_ble_eq_true rfl) dk_K_11 ?_
  refine g_ws (ws2 := [(b, .inr (5, [.null, .int 0, .int 1, .int 0, .int 0]))]) rfl ?_
  refine g_aload_n C (i := 0) dk_K_14 rfl rfl ?_
  refine g_iconst C (v := 0) dk_K_15 (by decide) ?_
  refine g_put C (F := cf_K) (n := 5) (j := 3) (ci := 5) (ty := .int) (v := .int 0) ct_K ty_K nm_K in_K 0 rfl rfl (by decide) kw_K_f18 rfl rfl (by decide +kernel) rfl rfl (Nat.le_of_ble_eq_true rfl) dk_K_16 ?_
  refine g_ws (ws2 := [(b, .inr (5, [.null, .int 0, .int 1, .int 0, .int 0]))]) rfl ?_
  refine g_aload_n C (i := 0) dk_K_19 rfl rfl ?_
  refine g_iconst C (v := 0) dk_K_20 (by decide) ?_
  refine g_put C (F := cf_K) (n := 5) (j := 4) (ci := 5) (ty := .int) (v := .int 0) ct_K ty_K nm_K in_K 0 rfl rfl (by decide) kw_K_f21 rfl rfl (by decide +kernel) rfl rfl (Nat.le_of_ble_eq_true rfl) dk_K_21 ?_
  refine g_ws (ws2 := [(b, .inr (5, [.null, .int 0, .int 1, .int 0, .int 0]))]) rfl ?_
  refine g_aload_n C (i := 0) dk_K_24 rfl rfl ?_
  refine g_aload_n C (i := 1) dk_K_25 rfl rfl ?_
  refine g_putF C (F := cf_K) (n := 5) (j := 0) (ci := 5) (ty := .object "RangeReckoner$Tape") (v := .ref t) hnm ct_K ty_K nm_K in_K 0 rfl rfl (by decide) kw_K_f24 rfl rfl (by decide +kernel) rfl rfl (Nat.le_of_ble_eq_true rfl) dk_K_26 ?_
  refine g_ws (ws2 := [(b, .inr (5, [.ref t, .int 0, .int 1, .int 0, .int 0]))]) rfl ?_
  exact g_vret C hr dk_K_29 [] rfl (Nat.le_of_ble_eq_true rfl) (Nat.le_of_ble_eq_true rfl)
def y_A_init : MethodName := ⟨cn_A, "<init>", "()V"⟩
theorem kc_A_c : Cond.code y_A_init prog_5_method_1_code 1 none ∈ zT := zt_m1 52 rfl rfl
theorem kc_A_i : Cond.instanceMethod y_A_init ∈ zT := zt_m1 51 rfl rfl
theorem kc_A_n : Cond.initialized y_A_init.cls ∈ zT := zt_m1 3 rfl rfl
theorem kc_A_p : y_A_init.cls ≠ "java/lang/invoke/MethodHandle" ∧ y_A_init.cls ≠ "java/lang/invoke/VarHandle" ∧ (parseMethodDescriptor y_A_init.desc).map (fun d => d.parameters.length) = some 0 := by decide +kernel
theorem dk_A_0 : decode prog_5_method_1_code 0 = .ok (.aload_n 0, 1) := by decide +kernel
theorem dk_A_1 : decode prog_5_method_1_code 1 = .ok (.invokespecial 3, 3) := by decide +kernel
theorem kw_A_ob : Cond.methodLink cn_A 3 Lib.objectInit ∈ zT := zt_m1 53 rfl rfl
theorem dk_A_4 : decode prog_5_method_1_code 4 = .ok (.aload_n 0, 1) := by decide +kernel
theorem dk_A_5 : decode prog_5_method_1_code 5 = .ok (.sipush (400), 3) := by decide +kernel
theorem dk_A_8 : decode prog_5_method_1_code 8 = .ok (.newarray .int, 2) := by decide +kernel
theorem kw_A_f9 : Cond.fieldLink cn_A 9 cn_A "signs" "[I" ∈ zT := zt_m1 54 rfl rfl
theorem dk_A_10 : decode prog_5_method_1_code 10 = .ok (.putfield 9, 3) := by decide +kernel
theorem dk_A_13 : decode prog_5_method_1_code 13 = .ok (.aload_n 0, 1) := by decide +kernel
theorem dk_A_14 : decode prog_5_method_1_code 14 = .ok (.iconst 0, 1) := by decide +kernel
theorem kw_A_f15 : Cond.fieldLink cn_A 15 cn_A "length" "I" ∈ zT := zt_m1 55 rfl rfl
theorem dk_A_15 : decode prog_5_method_1_code 15 = .ok (.putfield 15, 3) := by decide +kernel
theorem dk_A_18 : decode prog_5_method_1_code 18 = .ok (.return_, 1) := by decide +kernel
def ou_A (E : zE) (b : Nat) (u : List Nat) : va_W := [(b, .inr (2, [.ref (u.getD 0 0), .int 0])), ((u.getD 0 0), kI E 400)]
set_option maxRecDepth 100000 in
set_option maxHeartbeats 4000000 in
theorem k_A {l : Launch} {E : zE} {G : (Nat → Prop) → State → Prop} (hGr : zGr G) (b : Nat) : Ck l E xcl xN zT G 1 30 1 400 y_A_init prog_5_method_1_code 1 2 [.null, .int 0] b [] (ou_A E b) := by
  refine Ck.of (by decide) (Nat.le_of_ble_eq_true rfl) xX ?_
  intro p e s m below meth c A C hr hnm
  refine g_lv (lv2 := [some (.ref b)]) rfl ?_
  refine g_aload_n C (i := 0) dk_A_0 rfl rfl ?_
  refine g_objInit C kw_A_ob kw_oi kw_oc dk_A_1 (Nat.le_of_ble_eq_true rfl) (Nat.le_of_ble_eq_true rfl) (Nat.le_of_ble_eq_true rfl) ?_
  refine g_aload_n C (i := 0) dk_A_4 rfl rfl ?_
  refine g_sipush C (v := 400) dk_A_5 (by decide) ?_
  refine g_newI C (n' := 400) kw_aI (by decide) (by decide) (by decide) (Nat.le_of_ble_eq_true rfl) (Nat.le_of_ble_eq_true rfl) dk_A_8 (fun q8 => ?_)
  refine g_ws (ws2 := [(b, .inr (2, [.null, .int 0])), (q8, kI E 400)]) rfl ?_
  refine g_putF C (F := cf_A) (n := 2) (j := 0) (ci := 2) (ty := .array .int) (v := .ref q8) hnm ct_A ty_A nm_A in_A 0 rfl rfl (by decide) kw_A_f9 rfl rfl (by decide +kernel) rfl rfl (Nat.le_of_ble_eq_true rfl) dk_A_10 ?_
  refine g_ws (ws2 := [(b, .inr (2, [.ref q8, .int 0])), (q8, kI E 400)]) rfl ?_
  refine g_aload_n C (i := 0) dk_A_13 rfl rfl ?_
  refine g_iconst C (v := 0) dk_A_14 (by decide) ?_
  refine g_put C (F := cf_A) (n := 2) (j := 1) (ci := 2) (ty := .int) (v := .int 0) ct_A ty_A nm_A in_A 0 rfl rfl (by decide) kw_A_f15 rfl rfl (by decide +kernel) rfl rfl (Nat.le_of_ble_eq_true rfl) dk_A_15 ?_
  refine g_ws (ws2 := [(b, .inr (2, [.ref q8, .int 0])), (q8, kI E 400)]) rfl ?_
  exact g_vret C hr dk_A_18 [q8] rfl (Nat.le_of_ble_eq_true rfl) (Nat.le_of_ble_eq_true rfl)
def y_V_init : MethodName := ⟨cn_V, "<init>", "()V"⟩
theorem kc_V_c : Cond.code y_V_init prog_8_method_1_code 1 none ∈ zT := zt_m1 31 rfl rfl
theorem kc_V_i : Cond.instanceMethod y_V_init ∈ zT := zt_m1 30 rfl rfl
theorem kc_V_n : Cond.initialized y_V_init.cls ∈ zT := zt_m1 2 rfl rfl
theorem kc_V_p : y_V_init.cls ≠ "java/lang/invoke/MethodHandle" ∧ y_V_init.cls ≠ "java/lang/invoke/VarHandle" ∧ (parseMethodDescriptor y_V_init.desc).map (fun d => d.parameters.length) = some 0 := by decide +kernel
theorem dk_V_0 : decode prog_8_method_1_code 0 = .ok (.aload_n 0, 1) := by decide +kernel
theorem dk_V_1 : decode prog_8_method_1_code 1 = .ok (.invokespecial 3, 3) := by decide +kernel
theorem kw_V_ob : Cond.methodLink cn_V 3 Lib.objectInit ∈ zT := zt_m1 32 rfl rfl
theorem dk_V_4 : decode prog_8_method_1_code 4 = .ok (.aload_n 0, 1) := by decide +kernel
theorem dk_V_5 : decode prog_8_method_1_code 5 = .ok (.bipush (20), 2) := by decide +kernel
theorem dk_V_7 : decode prog_8_method_1_code 7 = .ok (.newarray .int, 2) := by decide +kernel
theorem kw_V_f9 : Cond.fieldLink cn_V 9 cn_V "low" "[I" ∈ zT := zt_m1 33 rfl rfl
theorem dk_V_9 : decode prog_8_method_1_code 9 = .ok (.putfield 9, 3) := by decide +kernel
theorem dk_V_12 : decode prog_8_method_1_code 12 = .ok (.aload_n 0, 1) := by decide +kernel
theorem dk_V_13 : decode prog_8_method_1_code 13 = .ok (.bipush (20), 2) := by decide +kernel
theorem dk_V_15 : decode prog_8_method_1_code 15 = .ok (.newarray .int, 2) := by decide +kernel
theorem kw_V_f15 : Cond.fieldLink cn_V 15 cn_V "high" "[I" ∈ zT := zt_m1 34 rfl rfl
theorem dk_V_17 : decode prog_8_method_1_code 17 = .ok (.putfield 15, 3) := by decide +kernel
theorem dk_V_20 : decode prog_8_method_1_code 20 = .ok (.aload_n 0, 1) := by decide +kernel
theorem dk_V_21 : decode prog_8_method_1_code 21 = .ok (.bipush (20), 2) := by decide +kernel
theorem dk_V_23 : decode prog_8_method_1_code 23 = .ok (.newarray .int, 2) := by decide +kernel
theorem kw_V_f18 : Cond.fieldLink cn_V 18 cn_V "worth" "[I" ∈ zT := zt_m1 35 rfl rfl
theorem dk_V_25 : decode prog_8_method_1_code 25 = .ok (.putfield 18, 3) := by decide +kernel
theorem dk_V_28 : decode prog_8_method_1_code 28 = .ok (.aload_n 0, 1) := by decide +kernel
theorem dk_V_29 : decode prog_8_method_1_code 29 = .ok (.iconst 0, 1) := by decide +kernel
theorem kw_V_f21 : Cond.fieldLink cn_V 21 cn_V "size" "I" ∈ zT := zt_m1 36 rfl rfl
theorem dk_V_30 : decode prog_8_method_1_code 30 = .ok (.putfield 21, 3) := by decide +kernel
theorem dk_V_33 : decode prog_8_method_1_code 33 = .ok (.return_, 1) := by decide +kernel
def ou_V (E : zE) (b : Nat) (u : List Nat) : va_W := [(b, .inr (1, [.ref (u.getD 0 0), .ref (u.getD 1 0), .ref (u.getD 2 0), .int 0])), ((u.getD 0 0), kI E 20), ((u.getD 1 0), kI E 20), ((u.getD 2 0), kI E 20)]
set_option maxRecDepth 100000 in
set_option maxHeartbeats 4000000 in
theorem k_V {l : Launch} {E : zE} {G : (Nat → Prop) → State → Prop} (hGr : zGr G) (b : Nat) : Ck l E xcl xN zT G 1 30 3 60 y_V_init prog_8_method_1_code 1 1 [.null, .null, .null, .int 0] b [] (ou_V E b) := by
  refine Ck.of (by decide) (Nat.le_of_ble_eq_true rfl) xX ?_
  intro p e s m below meth c A C hr hnm
  refine g_lv (lv2 := [some (.ref b)]) rfl ?_
  refine g_aload_n C (i := 0) dk_V_0 rfl rfl ?_
  refine g_objInit C kw_V_ob kw_oi kw_oc dk_V_1 (Nat.le_of_ble_eq_true rfl) (Nat.le_of_ble_eq_true rfl) (Nat.le_of_ble_eq_true rfl) ?_
  refine g_aload_n C (i := 0) dk_V_4 rfl rfl ?_
  refine g_bipush C (v := 20) dk_V_5 (by decide) ?_
  refine g_newI C (n' := 20) kw_aI (by decide) (by decide) (by decide) (Nat.le_of_ble_eq_true rfl) (Nat.le_of_ble_eq_true rfl) dk_V_7 (fun q7 => ?_)
  refine g_ws (ws2 := [(b, .inr (1, [.null, .null, .null, .int 0])), (q7, kI E 20)]) rfl ?_
  refine g_putF C (F := cf_V) (n := 4) (j := 0) (ci := 1) (ty := .array .int) (v := .ref q7) hnm ct_V ty_V nm_V in_V 0 rfl rfl (by decide) kw_V_f9 rfl rfl (by decide +kernel) rfl rfl (Nat.le_of_ble_eq_true rfl) dk_V_9 ?_
  refine g_ws (ws2 := [(b, .inr (1, [.ref q7, .null, .null, .int 0])), (q7, kI E 20)]) rfl ?_
  refine g_aload_n C (i := 0) dk_V_12 rfl rfl ?_
  refine g_bipush C (v := 20) dk_V_13 (by decide) ?_
  refine g_newI C (n' := 20) kw_aI (by decide) (by decide) (by decide) (Nat.le_of_ble_eq_true rfl) (Nat.le_of_ble_eq_true rfl) dk_V_15 (fun q15 => ?_)
  refine g_ws (ws2 := [(b, .inr (1, [.ref q7, .null, .null, .int 0])), (q7, kI E 20), (q15, kI E 20)]) rfl ?_
  refine g_putF C (F := cf_V) (n := 4) (j := 1) (ci := 1) (ty := .array .int) (v := .ref q15) hnm ct_V ty_V nm_V in_V 0 rfl rfl (by decide) kw_V_f15 rfl rfl (by decide +kernel) rfl rfl (Nat.le_of_ble_eq_true rfl) dk_V_17 ?_
  refine g_ws (ws2 := [(b, .inr (1, [.ref q7, .ref q15, .null, .int 0])), (q7, kI E 20), (q15, kI E 20)]) rfl ?_
  refine g_aload_n C (i := 0) dk_V_20 rfl rfl ?_
  refine g_bipush C (v := 20) dk_V_21 (by decide) ?_
  refine g_newI C (n' := 20) kw_aI (by decide) (by decide) (by decide) (Nat.le_of_ble_eq_true rfl) (Nat.le_of_ble_eq_true rfl) dk_V_23 (fun q23 => ?_)
  refine g_ws (ws2 := [(b, .inr (1, [.ref q7, .ref q15, .null, .int 0])), (q7, kI E 20), (q15, kI E 20), (q23, kI E 20)]) rfl ?_
  refine g_putF C (F := cf_V) (n := 4) (j := 2) (ci := 1) (ty := .array .int) (v := .ref q23) hnm ct_V ty_V nm_V in_V 0 rfl rfl (by decide) kw_V_f18 rfl rfl (by decide +kernel) rfl rfl (Nat.le_of_ble_eq_true rfl) dk_V_25 ?_
  refine g_ws (ws2 := [(b, .inr (1, [.ref q7, .ref q15, .ref q23, .int 0])), (q7, kI E 20), (q15, kI E 20), (q23, kI E 20)]) rfl ?_
  refine g_aload_n C (i := 0) dk_V_28 rfl rfl ?_
  refine g_iconst C (v := 0) dk_V_29 (by decide) ?_
  refine g_put C (F := cf_V) (n := 4) (j := 3) (ci := 1) (ty := .int) (v := .int 0) ct_V ty_V nm_V in_V 0 rfl rfl (by decide) kw_V_f21 rfl rfl (by decide +kernel) rfl rfl (Nat.le_of_ble_eq_true rfl) dk_V_30 ?_
  refine g_ws (ws2 := [(b, .inr (1, [.ref q7, .ref q15, .ref q23, .int 0])), (q7, kI E 20), (q15, kI E 20), (q23, kI E 20)]) rfl ?_
  exact g_vret C hr dk_V_33 [q7, q15, q23] rfl (Nat.le_of_ble_eq_true rfl) (Nat.le_of_ble_eq_true rfl)
def y_T_init : MethodName := ⟨cn_T, "<init>", "()V"⟩
theorem kc_T_c : Cond.code y_T_init prog_6_method_1_code 1 none ∈ zT := zt_m1 67 rfl rfl
theorem kc_T_i : Cond.instanceMethod y_T_init ∈ zT := zt_m1 66 rfl rfl
theorem kc_T_n : Cond.initialized y_T_init.cls ∈ zT := zt_m1 4 rfl rfl
theorem kc_T_p : y_T_init.cls ≠ "java/lang/invoke/MethodHandle" ∧ y_T_init.cls ≠ "java/lang/invoke/VarHandle" ∧ (parseMethodDescriptor y_T_init.desc).map (fun d => d.parameters.length) = some 0 := by decide +kernel
theorem dk_T_0 : decode prog_6_method_1_code 0 = .ok (.aload_n 0, 1) := by decide +kernel
theorem dk_T_1 : decode prog_6_method_1_code 1 = .ok (.invokespecial 3, 3) := by decide +kernel
theorem kw_T_ob : Cond.methodLink cn_T 3 Lib.objectInit ∈ zT := zt_m1 68 rfl rfl
theorem dk_T_4 : decode prog_6_method_1_code 4 = .ok (.aload_n 0, 1) := by decide +kernel
theorem dk_T_5 : decode prog_6_method_1_code 5 = .ok (.bipush (100), 2) := by decide +kernel
theorem dk_T_7 : decode prog_6_method_1_code 7 = .ok (.newarray .int, 2) := by decide +kernel
theorem kw_T_f9 : Cond.fieldLink cn_T 9 cn_T "operator" "[I" ∈ zT := zt_m1 69 rfl rfl
theorem dk_T_9 : decode prog_6_method_1_code 9 = .ok (.putfield 9, 3) := by decide +kernel
theorem dk_T_12 : decode prog_6_method_1_code 12 = .ok (.aload_n 0, 1) := by decide +kernel
theorem dk_T_13 : decode prog_6_method_1_code 13 = .ok (.bipush (100), 2) := by decide +kernel
theorem dk_T_15 : decode prog_6_method_1_code 15 = .ok (.newarray .int, 2) := by decide +kernel
theorem kw_T_f15 : Cond.fieldLink cn_T 15 cn_T "place" "[I" ∈ zT := zt_m1 70 rfl rfl
theorem dk_T_17 : decode prog_6_method_1_code 17 = .ok (.putfield 15, 3) := by decide +kernel
theorem dk_T_20 : decode prog_6_method_1_code 20 = .ok (.aload_n 0, 1) := by decide +kernel
theorem dk_T_21 : decode prog_6_method_1_code 21 = .ok (.bipush (100), 2) := by decide +kernel
theorem dk_T_23 : decode prog_6_method_1_code 23 = .ok (.newarray .int, 2) := by decide +kernel
theorem kw_T_f18 : Cond.fieldLink cn_T 18 cn_T "kind" "[I" ∈ zT := zt_m1 71 rfl rfl
theorem dk_T_25 : decode prog_6_method_1_code 25 = .ok (.putfield 18, 3) := by decide +kernel
theorem dk_T_28 : decode prog_6_method_1_code 28 = .ok (.aload_n 0, 1) := by decide +kernel
theorem dk_T_29 : decode prog_6_method_1_code 29 = .ok (.bipush (100), 2) := by decide +kernel
theorem dk_T_31 : decode prog_6_method_1_code 31 = .ok (.newarray .int, 2) := by decide +kernel
theorem kw_T_f21 : Cond.fieldLink cn_T 21 cn_T "low" "[I" ∈ zT := zt_m1 72 rfl rfl
theorem dk_T_33 : decode prog_6_method_1_code 33 = .ok (.putfield 21, 3) := by decide +kernel
theorem dk_T_36 : decode prog_6_method_1_code 36 = .ok (.aload_n 0, 1) := by decide +kernel
theorem dk_T_37 : decode prog_6_method_1_code 37 = .ok (.bipush (100), 2) := by decide +kernel
theorem dk_T_39 : decode prog_6_method_1_code 39 = .ok (.newarray .int, 2) := by decide +kernel
theorem kw_T_f24 : Cond.fieldLink cn_T 24 cn_T "high" "[I" ∈ zT := zt_m1 73 rfl rfl
theorem dk_T_41 : decode prog_6_method_1_code 41 = .ok (.putfield 24, 3) := by decide +kernel
theorem dk_T_44 : decode prog_6_method_1_code 44 = .ok (.aload_n 0, 1) := by decide +kernel
theorem dk_T_45 : decode prog_6_method_1_code 45 = .ok (.bipush (100), 2) := by decide +kernel
theorem dk_T_47 : decode prog_6_method_1_code 47 = .ok (.newarray .int, 2) := by decide +kernel
theorem kw_T_f27 : Cond.fieldLink cn_T 27 cn_T "left" "[I" ∈ zT := zt_m1 74 rfl rfl
theorem dk_T_49 : decode prog_6_method_1_code 49 = .ok (.putfield 27, 3) := by decide +kernel
theorem dk_T_52 : decode prog_6_method_1_code 52 = .ok (.aload_n 0, 1) := by decide +kernel
theorem dk_T_53 : decode prog_6_method_1_code 53 = .ok (.bipush (100), 2) := by decide +kernel
theorem dk_T_55 : decode prog_6_method_1_code 55 = .ok (.newarray .int, 2) := by decide +kernel
theorem kw_T_f30 : Cond.fieldLink cn_T 30 cn_T "right" "[I" ∈ zT := zt_m1 75 rfl rfl
theorem dk_T_57 : decode prog_6_method_1_code 57 = .ok (.putfield 30, 3) := by decide +kernel
theorem dk_T_60 : decode prog_6_method_1_code 60 = .ok (.aload_n 0, 1) := by decide +kernel
theorem dk_T_61 : decode prog_6_method_1_code 61 = .ok (.bipush (100), 2) := by decide +kernel
theorem dk_T_63 : decode prog_6_method_1_code 63 = .ok (.newarray .int, 2) := by decide +kernel
theorem kw_T_f33 : Cond.fieldLink cn_T 33 cn_T "extra" "[I" ∈ zT := zt_m1 76 rfl rfl
theorem dk_T_65 : decode prog_6_method_1_code 65 = .ok (.putfield 33, 3) := by decide +kernel
theorem dk_T_68 : decode prog_6_method_1_code 68 = .ok (.aload_n 0, 1) := by decide +kernel
theorem dk_T_69 : decode prog_6_method_1_code 69 = .ok (.bipush (100), 2) := by decide +kernel
theorem dk_T_71 : decode prog_6_method_1_code 71 = .ok (.newarray .int, 2) := by decide +kernel
theorem kw_T_f36 : Cond.fieldLink cn_T 36 cn_T "depth" "[I" ∈ zT := zt_m1 77 rfl rfl
theorem dk_T_73 : decode prog_6_method_1_code 73 = .ok (.putfield 36, 3) := by decide +kernel
theorem dk_T_76 : decode prog_6_method_1_code 76 = .ok (.aload_n 0, 1) := by decide +kernel
theorem dk_T_77 : decode prog_6_method_1_code 77 = .ok (.bipush (100), 2) := by decide +kernel
theorem dk_T_79 : decode prog_6_method_1_code 79 = .ok (.newarray .long, 2) := by decide +kernel
theorem kw_T_f39 : Cond.fieldLink cn_T 39 cn_T "worth" "[J" ∈ zT := zt_m1 78 rfl rfl
theorem dk_T_81 : decode prog_6_method_1_code 81 = .ok (.putfield 39, 3) := by decide +kernel
theorem dk_T_84 : decode prog_6_method_1_code 84 = .ok (.aload_n 0, 1) := by decide +kernel
theorem dk_T_85 : decode prog_6_method_1_code 85 = .ok (.iconst 0, 1) := by decide +kernel
theorem kw_T_f43 : Cond.fieldLink cn_T 43 cn_T "size" "I" ∈ zT := zt_m1 79 rfl rfl
theorem dk_T_86 : decode prog_6_method_1_code 86 = .ok (.putfield 43, 3) := by decide +kernel
theorem dk_T_89 : decode prog_6_method_1_code 89 = .ok (.return_, 1) := by decide +kernel
def ou_T (E : zE) (b : Nat) (u : List Nat) : va_W := [(b, .inr (3, [.ref (u.getD 0 0), .ref (u.getD 1 0), .ref (u.getD 2 0), .ref (u.getD 3 0), .ref (u.getD 4 0), .ref (u.getD 5 0), .ref (u.getD 6 0), .ref (u.getD 7 0), .ref (u.getD 8 0), .ref (u.getD 9 0), .int 0])), ((u.getD 0 0), kI E 100), ((u.getD 1 0), kI E 100), ((u.getD 2 0), kI E 100), ((u.getD 3 0), kI E 100), ((u.getD 4 0), kI E 100), ((u.getD 5 0), kI E 100), ((u.getD 6 0), kI E 100), ((u.getD 7 0), kI E 100), ((u.getD 8 0), kI E 100), ((u.getD 9 0), kL E 100)]
set_option maxRecDepth 100000 in
set_option maxHeartbeats 4000000 in
theorem k_T {l : Launch} {E : zE} {G : (Nat → Prop) → State → Prop} (hGr : zGr G) (b : Nat) : Ck l E xcl xN zT G 1 30 10 1000 y_T_init prog_6_method_1_code 1 3 [.null, .null, .null, .null, .null, .null, .null, .null, .null, .null, .int 0] b [] (ou_T E b) := by
  refine Ck.of (by decide) (Nat.le_of_ble_eq_true rfl) xX ?_
  intro p e s m below meth c A C hr hnm
  refine g_lv (lv2 := [some (.ref b)]) rfl ?_
  refine g_aload_n C (i := 0) dk_T_0 rfl rfl ?_
  refine g_objInit C kw_T_ob kw_oi kw_oc dk_T_1 (Nat.le_of_ble_eq_true rfl) (Nat.le_of_ble_eq_true rfl) (Nat.le_of_ble_eq_true rfl) ?_
  refine g_aload_n C (i := 0) dk_T_4 rfl rfl ?_
  refine g_bipush C (v := 100) dk_T_5 (by decide) ?_
  refine g_newI C (n' := 100) kw_aI (by decide) (by decide) (by decide) (Nat.le_of_ble_eq_true rfl) (Nat.le_of_ble_eq_true rfl) dk_T_7 (fun q7 => ?_)
  refine g_ws (ws2 := [(b, .inr (3, [.null, .null, .null, .null, .null, .null, .null, .null, .null, .null, .int 0])), (q7, kI E 100)]) rfl ?_
  refine g_putF C (F := cf_T) (n := 11) (j := 0) (ci := 3) (ty := .array .int) (v := .ref q7) hnm ct_T ty_T nm_T in_T 0 rfl rfl (by decide) kw_T_f9 rfl rfl (by decide +kernel) rfl rfl (Nat.le_of_ble_eq_true rfl) dk_T_9 ?_
  refine g_ws (ws2 := [(b, .inr (3, [.ref q7, .null, .null, .null, .null, .null, .null, .null, .null, .null, .int 0])), (q7, kI E 100)]) rfl ?_
  refine g_aload_n C (i := 0) dk_T_12 rfl rfl ?_
  refine g_bipush C (v := 100) dk_T_13 (by decide) ?_
  refine g_newI C (n' := 100) kw_aI (by decide) (by decide) (by decide) (Nat.le_of_ble_eq_true rfl) (Nat.le_of_ble_eq_true rfl) dk_T_15 (fun q15 => ?_)
  refine g_ws (ws2 := [(b, .inr (3, [.ref q7, .null, .null, .null, .null, .null, .null, .null, .null, .null, .int 0])), (q7, kI E 100), (q15, kI E 100)]) rfl ?_
  refine g_putF C (F := cf_T) (n := 11) (j := 1) (ci := 3) (ty := .array .int) (v := .ref q15) hnm ct_T ty_T nm_T in_T 0 rfl rfl (by decide) kw_T_f15 rfl rfl (by decide +kernel) rfl rfl (Nat.le_of_ble_eq_true rfl) dk_T_17 ?_
  refine g_ws (ws2 := [(b, .inr (3, [.ref q7, .ref q15, .null, .null, .null, .null, .null, .null, .null, .null, .int 0])), (q7, kI E 100), (q15, kI E 100)]) rfl ?_
  refine g_aload_n C (i := 0) dk_T_20 rfl rfl ?_
  refine g_bipush C (v := 100) dk_T_21 (by decide) ?_
  refine g_newI C (n' := 100) kw_aI (by decide) (by decide) (by decide) (Nat.le_of_ble_eq_true rfl) (Nat.le_of_ble_eq_true rfl) dk_T_23 (fun q23 => ?_)
  refine g_ws (ws2 := [(b, .inr (3, [.ref q7, .ref q15, .null, .null, .null, .null, .null, .null, .null, .null, .int 0])), (q7, kI E 100), (q15, kI E 100), (q23, kI E 100)]) rfl ?_
  refine g_putF C (F := cf_T) (n := 11) (j := 2) (ci := 3) (ty := .array .int) (v := .ref q23) hnm ct_T ty_T nm_T in_T 0 rfl rfl (by decide) kw_T_f18 rfl rfl (by decide +kernel) rfl rfl (Nat.le_of_ble_eq_true rfl) dk_T_25 ?_
  refine g_ws (ws2 := [(b, .inr (3, [.ref q7, .ref q15, .ref q23, .null, .null, .null, .null, .null, .null, .null, .int 0])), (q7, kI E 100), (q15, kI E 100), (q23, kI E 100)]) rfl ?_
  refine g_aload_n C (i := 0) dk_T_28 rfl rfl ?_
  refine g_bipush C (v := 100) dk_T_29 (by decide) ?_
  refine g_newI C (n' := 100) kw_aI (by decide) (by decide) (by decide) (Nat.le_of_ble_eq_true rfl) (Nat.le_of_ble_eq_true rfl) dk_T_31 (fun q31 => ?_)
  refine g_ws (ws2 := [(b, .inr (3, [.ref q7, .ref q15, .ref q23, .null, .null, .null, .null, .null, .null, .null, .int 0])), (q7, kI E 100), (q15, kI E 100), (q23, kI E 100), (q31, kI E 100)]) rfl ?_
  refine g_putF C (F := cf_T) (n := 11) (j := 3) (ci := 3) (ty := .array .int) (v := .ref q31) hnm ct_T ty_T nm_T in_T 0 rfl rfl (by decide) kw_T_f21 rfl rfl (by decide +kernel) rfl rfl (Nat.le_of_ble_eq_true rfl) dk_T_33 ?_
  refine g_ws (ws2 := [(b, .inr (3, [.ref q7, .ref q15, .ref q23, .ref q31, .null, .null, .null, .null, .null, .null, .int 0])), (q7, kI E 100), (q15, kI E 100), (q23, kI E 100), (q31, kI E 100)]) rfl ?_
  refine g_aload_n C (i := 0) dk_T_36 rfl rfl ?_
  refine g_bipush C (v := 100) dk_T_37 (by decide) ?_
  refine g_newI C (n' := 100) kw_aI (by decide) (by decide) (by decide) (Nat.le_of_ble_eq_true rfl) (Nat.le_of_ble_eq_true rfl) dk_T_39 (fun q39 => ?_)
  refine g_ws (ws2 := [(b, .inr (3, [.ref q7, .ref q15, .ref q23, .ref q31, .null, .null, .null, .null, .null, .null, .int 0])), (q7, kI E 100), (q15, kI E 100), (q23, kI E 100), (q31, kI E 100), (q39, kI E 100)]) rfl ?_
  refine g_putF C (F := cf_T) (n := 11) (j := 4) (ci := 3) (ty := .array .int) (v := .ref q39) hnm ct_T ty_T nm_T in_T 0 rfl rfl (by decide) kw_T_f24 rfl rfl (by decide +kernel) rfl rfl (Nat.le_of_ble_eq_true rfl) dk_T_41 ?_
  refine g_ws (ws2 := [(b, .inr (3, [.ref q7, .ref q15, .ref q23, .ref q31, .ref q39, .null, .null, .null, .null, .null, .int 0])), (q7, kI E 100), (q15, kI E 100), (q23, kI E 100), (q31, kI E 100), (q39, kI E 100)]) rfl ?_
  refine g_aload_n C (i := 0) dk_T_44 rfl rfl ?_
  refine g_bipush C (v := 100) dk_T_45 (by decide) ?_
  refine g_newI C (n' := 100) kw_aI (by decide) (by decide) (by decide) (Nat.le_of_ble_eq_true rfl) (Nat.le_of_ble_eq_true rfl) dk_T_47 (fun q47 => ?_)
  refine g_ws (ws2 := [(b, .inr (3, [.ref q7, .ref q15, .ref q23, .ref q31, .ref q39, .null, .null, .null, .null, .null, .int 0])), (q7, kI E 100), (q15, kI E 100), (q23, kI E 100), (q31, kI E 100), (q39, kI E 100), (q47, kI E 100)]) rfl ?_
  refine g_putF C (F := cf_T) (n := 11) (j := 5) (ci := 3) (ty := .array .int) (v := .ref q47) hnm ct_T ty_T nm_T in_T 0 rfl rfl (by decide) kw_T_f27 rfl rfl (by decide +kernel) rfl rfl (Nat.le_of_ble_eq_true rfl) dk_T_49 ?_
  refine g_ws (ws2 := [(b, .inr (3, [.ref q7, .ref q15, .ref q23, .ref q31, .ref q39, .ref q47, .null, .null, .null, .null, .int 0])), (q7, kI E 100), (q15, kI E 100), (q23, kI E 100), (q31, kI E 100), (q39, kI E 100), (q47, kI E 100)]) rfl ?_
  refine g_aload_n C (i := 0) dk_T_52 rfl rfl ?_
  refine g_bipush C (v := 100) dk_T_53 (by decide) ?_
  refine g_newI C (n' := 100) kw_aI (by decide) (by decide) (by decide) (Nat.le_of_ble_eq_true rfl) (Nat.le_of_ble_eq_true rfl) dk_T_55 (fun q55 => ?_)
  refine g_ws (ws2 := [(b, .inr (3, [.ref q7, .ref q15, .ref q23, .ref q31, .ref q39, .ref q47, .null, .null, .null, .null, .int 0])), (q7, kI E 100), (q15, kI E 100), (q23, kI E 100), (q31, kI E 100), (q39, kI E 100), (q47, kI E 100), (q55, kI E 100)]) rfl ?_
  refine g_putF C (F := cf_T) (n := 11) (j := 6) (ci := 3) (ty := .array .int) (v := .ref q55) hnm ct_T ty_T nm_T in_T 0 rfl rfl (by decide) kw_T_f30 rfl rfl (by decide +kernel) rfl rfl (Nat.le_of_ble_eq_true rfl) dk_T_57 ?_
  refine g_ws (ws2 := [(b, .inr (3, [.ref q7, .ref q15, .ref q23, .ref q31, .ref q39, .ref q47, .ref q55, .null, .null, .null, .int 0])), (q7, kI E 100), (q15, kI E 100), (q23, kI E 100), (q31, kI E 100), (q39, kI E 100), (q47, kI E 100), (q55, kI E 100)]) rfl ?_
  refine g_aload_n C (i := 0) dk_T_60 rfl rfl ?_
  refine g_bipush C (v := 100) dk_T_61 (by decide) ?_
  refine g_newI C (n' := 100) kw_aI (by decide) (by decide) (by decide) (Nat.le_of_ble_eq_true rfl) (Nat.le_of_ble_eq_true rfl) dk_T_63 (fun q63 => ?_)
  refine g_ws (ws2 := [(b, .inr (3, [.ref q7, .ref q15, .ref q23, .ref q31, .ref q39, .ref q47, .ref q55, .null, .null, .null, .int 0])), (q7, kI E 100), (q15, kI E 100), (q23, kI E 100), (q31, kI E 100), (q39, kI E 100), (q47, kI E 100), (q55, kI E 100), (q63, kI E 100)]) rfl ?_
  refine g_putF C (F := cf_T) (n := 11) (j := 7) (ci := 3) (ty := .array .int) (v := .ref q63) hnm ct_T ty_T nm_T in_T 0 rfl rfl (by decide) kw_T_f33 rfl rfl (by decide +kernel) rfl rfl (Nat.le_of_ble_eq_true rfl) dk_T_65 ?_
  refine g_ws (ws2 := [(b, .inr (3, [.ref q7, .ref q15, .ref q23, .ref q31, .ref q39, .ref q47, .ref q55, .ref q63, .null, .null, .int 0])), (q7, kI E 100), (q15, kI E 100), (q23, kI E 100), (q31, kI E 100), (q39, kI E 100), (q47, kI E 100), (q55, kI E 100), (q63, kI E 100)]) rfl ?_
  refine g_aload_n C (i := 0) dk_T_68 rfl rfl ?_
  refine g_bipush C (v := 100) dk_T_69 (by decide) ?_
  refine g_newI C (n' := 100) kw_aI (by decide) (by decide) (by decide) (Nat.le_of_ble_eq_true rfl) (Nat.le_of_ble_eq_true rfl) dk_T_71 (fun q71 => ?_)
  refine g_ws (ws2 := [(b, .inr (3, [.ref q7, .ref q15, .ref q23, .ref q31, .ref q39, .ref q47, .ref q55, .ref q63, .null, .null, .int 0])), (q7, kI E 100), (q15, kI E 100), (q23, kI E 100), (q31, kI E 100), (q39, kI E 100), (q47, kI E 100), (q55, kI E 100), (q63, kI E 100), (q71, kI E 100)]) rfl ?_
  refine g_putF C (F := cf_T) (n := 11) (j := 8) (ci := 3) (ty := .array .int) (v := .ref q71) hnm ct_T ty_T nm_T in_T 0 rfl rfl (by decide) kw_T_f36 rfl rfl (by decide +kernel) rfl rfl (Nat.le_of_ble_eq_true rfl) dk_T_73 ?_
  refine g_ws (ws2 := [(b, .inr (3, [.ref q7, .ref q15, .ref q23, .ref q31, .ref q39, .ref q47, .ref q55, .ref q63, .ref q71, .null, .int 0])), (q7, kI E 100), (q15, kI E 100), (q23, kI E 100), (q31, kI E 100), (q39, kI E 100), (q47, kI E 100), (q55, kI E 100), (q63, kI E 100), (q71, kI E 100)]) rfl ?_
  refine g_aload_n C (i := 0) dk_T_76 rfl rfl ?_
  refine g_bipush C (v := 100) dk_T_77 (by decide) ?_
  refine g_newL C (n' := 100) kw_aL (by decide) (by decide) (by decide) (Nat.le_of_ble_eq_true rfl) (Nat.le_of_ble_eq_true rfl) dk_T_79 (fun q79 => ?_)
  refine g_ws (ws2 := [(b, .inr (3, [.ref q7, .ref q15, .ref q23, .ref q31, .ref q39, .ref q47, .ref q55, .ref q63, .ref q71, .null, .int 0])), (q7, kI E 100), (q15, kI E 100), (q23, kI E 100), (q31, kI E 100), (q39, kI E 100), (q47, kI E 100), (q55, kI E 100), (q63, kI E 100), (q71, kI E 100), (q79, kL E 100)]) rfl ?_
  refine g_putF C (F := cf_T) (n := 11) (j := 9) (ci := 3) (ty := .array .long) (v := .ref q79) hnm ct_T ty_T nm_T in_T 0 rfl rfl (by decide) kw_T_f39 rfl rfl (by decide +kernel) rfl rfl (Nat.le_of_ble_eq_true rfl) dk_T_81 ?_
  refine g_ws (ws2 := [(b, .inr (3, [.ref q7, .ref q15, .ref q23, .ref q31, .ref q39, .ref q47, .ref q55, .ref q63, .ref q71, .ref q79, .int 0])), (q7, kI E 100), (q15, kI E 100), (q23, kI E 100), (q31, kI E 100), (q39, kI E 100), (q47, kI E 100), (q55, kI E 100), (q63, kI E 100), (q71, kI E 100), (q79, kL E 100)]) rfl ?_
  refine g_aload_n C (i := 0) dk_T_84 rfl rfl ?_
  refine g_iconst C (v := 0) dk_T_85 (by decide) ?_
  refine g_put C (F := cf_T) (n := 11) (j := 10) (ci := 3) (ty := .int) (v := .int 0) ct_T ty_T nm_T in_T 0 rfl rfl (by decide) kw_T_f43 rfl rfl (by decide +kernel) rfl rfl (Nat.le_of_ble_eq_true rfl) dk_T_86 ?_
  refine g_ws (ws2 := [(b, .inr (3, [.ref q7, .ref q15, .ref q23, .ref q31, .ref q39, .ref q47, .ref q55, .ref q63, .ref q71, .ref q79, .int 0])), (q7, kI E 100), (q15, kI E 100), (q23, kI E 100), (q31, kI E 100), (q39, kI E 100), (q47, kI E 100), (q55, kI E 100), (q63, kI E 100), (q71, kI E 100), (q79, kL E 100)]) rfl ?_
  exact g_vret C hr dk_T_89 [q7, q15, q23, q31, q39, q47, q55, q63, q71, q79] rfl (Nat.le_of_ble_eq_true rfl) (Nat.le_of_ble_eq_true rfl)
def y_P_init : MethodName := ⟨cn_P, "<init>", "(LRangeReckoner$Variables;LRangeReckoner$Tape;LRangeReckoner$Term;)V"⟩
theorem kc_P_c : Cond.code y_P_init prog_2_method_1_code 4 none ∈ zT := zt_m1 110 rfl rfl
theorem kc_P_i : Cond.instanceMethod y_P_init ∈ zT := zt_m1 109 rfl rfl
theorem kc_P_n : Cond.initialized y_P_init.cls ∈ zT := zt_m1 5 rfl rfl
theorem kc_P_p : y_P_init.cls ≠ "java/lang/invoke/MethodHandle" ∧ y_P_init.cls ≠ "java/lang/invoke/VarHandle" ∧ (parseMethodDescriptor y_P_init.desc).map (fun d => d.parameters.length) = some 3 := by decide +kernel
theorem dk_P_0 : decode prog_2_method_1_code 0 = .ok (.aload_n 0, 1) := by decide +kernel
theorem dk_P_1 : decode prog_2_method_1_code 1 = .ok (.invokespecial 3, 3) := by decide +kernel
theorem kw_P_ob : Cond.methodLink cn_P 3 Lib.objectInit ∈ zT := zt_m1 111 rfl rfl
theorem dk_P_4 : decode prog_2_method_1_code 4 = .ok (.aload_n 0, 1) := by decide +kernel
theorem dk_P_5 : decode prog_2_method_1_code 5 = .ok (.new 9, 3) := by decide +kernel
theorem kw_P_cl9 : Cond.classLink cn_P 9 cn_G ∈ zT := zt_m1 112 rfl rfl
theorem kw_in_G : Cond.instantiable cn_G 5 ∈ zT := zt_m1 113 rfl rfl
theorem dk_P_8 : decode prog_2_method_1_code 8 = .ok (.dup, 1) := by decide +kernel
theorem dk_P_9 : decode prog_2_method_1_code 9 = .ok (.invokespecial 11, 3) := by decide +kernel
theorem kw_P_f12 : Cond.fieldLink cn_P 12 cn_P "pending" "LRangeReckoner$Pending;" ∈ zT := zt_m1 178 rfl rfl
theorem dk_P_12 : decode prog_2_method_1_code 12 = .ok (.putfield 12, 3) := by decide +kernel
theorem dk_P_15 : decode prog_2_method_1_code 15 = .ok (.aload_n 0, 1) := by decide +kernel
theorem dk_P_16 : decode prog_2_method_1_code 16 = .ok (.bipush (100), 2) := by decide +kernel
theorem dk_P_18 : decode prog_2_method_1_code 18 = .ok (.newarray .int, 2) := by decide +kernel
theorem kw_P_f18 : Cond.fieldLink cn_P 18 cn_P "loose" "[I" ∈ zT := zt_m1 179 rfl rfl
theorem dk_P_20 : decode prog_2_method_1_code 20 = .ok (.putfield 18, 3) := by decide +kernel
theorem dk_P_23 : decode prog_2_method_1_code 23 = .ok (.aload_n 0, 1) := by decide +kernel
theorem dk_P_24 : decode prog_2_method_1_code 24 = .ok (.iconst 0, 1) := by decide +kernel
theorem kw_P_f22 : Cond.fieldLink cn_P 22 cn_P "looseSize" "I" ∈ zT := zt_m1 180 rfl rfl
theorem dk_P_25 : decode prog_2_method_1_code 25 = .ok (.putfield 22, 3) := by decide +kernel
theorem dk_P_28 : decode prog_2_method_1_code 28 = .ok (.aload_n 0, 1) := by decide +kernel
theorem dk_P_29 : decode prog_2_method_1_code 29 = .ok (.new 26, 3) := by decide +kernel
theorem kw_P_cl26 : Cond.classLink cn_P 26 cn_N ∈ zT := zt_m1 136 rfl rfl
theorem kw_in_N : Cond.instantiable cn_N 2 ∈ zT := zt_m1 137 rfl rfl
theorem dk_P_32 : decode prog_2_method_1_code 32 = .ok (.dup, 1) := by decide +kernel
theorem dk_P_33 : decode prog_2_method_1_code 33 = .ok (.invokespecial 28, 3) := by decide +kernel
theorem kw_P_f29 : Cond.fieldLink cn_P 29 cn_P "first" "LRangeReckoner$Range;" ∈ zT := zt_m1 181 rfl rfl
theorem dk_P_36 : decode prog_2_method_1_code 36 = .ok (.putfield 29, 3) := by decide +kernel
theorem dk_P_39 : decode prog_2_method_1_code 39 = .ok (.aload_n 0, 1) := by decide +kernel
theorem dk_P_40 : decode prog_2_method_1_code 40 = .ok (.new 26, 3) := by decide +kernel
theorem dk_P_43 : decode prog_2_method_1_code 43 = .ok (.dup, 1) := by decide +kernel
theorem dk_P_44 : decode prog_2_method_1_code 44 = .ok (.invokespecial 28, 3) := by decide +kernel
theorem kw_P_f33 : Cond.fieldLink cn_P 33 cn_P "second" "LRangeReckoner$Range;" ∈ zT := zt_m1 182 rfl rfl
theorem dk_P_47 : decode prog_2_method_1_code 47 = .ok (.putfield 33, 3) := by decide +kernel
theorem dk_P_50 : decode prog_2_method_1_code 50 = .ok (.aload_n 0, 1) := by decide +kernel
theorem dk_P_51 : decode prog_2_method_1_code 51 = .ok (.new 26, 3) := by decide +kernel
theorem dk_P_54 : decode prog_2_method_1_code 54 = .ok (.dup, 1) := by decide +kernel
theorem dk_P_55 : decode prog_2_method_1_code 55 = .ok (.invokespecial 28, 3) := by decide +kernel
theorem kw_P_f36 : Cond.fieldLink cn_P 36 cn_P "given" "LRangeReckoner$Range;" ∈ zT := zt_m1 183 rfl rfl
theorem dk_P_58 : decode prog_2_method_1_code 58 = .ok (.putfield 36, 3) := by decide +kernel
theorem dk_P_61 : decode prog_2_method_1_code 61 = .ok (.aload_n 0, 1) := by decide +kernel
theorem dk_P_62 : decode prog_2_method_1_code 62 = .ok (.iconst 3, 1) := by decide +kernel
theorem kw_P_f39 : Cond.fieldLink cn_P 39 cn_P "wanted" "I" ∈ zT := zt_m1 185 rfl rfl
theorem dk_P_63 : decode prog_2_method_1_code 63 = .ok (.putfield 39, 3) := by decide +kernel
theorem dk_P_66 : decode prog_2_method_1_code 66 = .ok (.aload_n 0, 1) := by decide +kernel
theorem dk_P_67 : decode prog_2_method_1_code 67 = .ok (.iconst 0, 1) := by decide +kernel
theorem kw_P_f42 : Cond.fieldLink cn_P 42 cn_P "fault" "I" ∈ zT := zt_m1 186 rfl rfl
theorem dk_P_68 : decode prog_2_method_1_code 68 = .ok (.putfield 42, 3) := by decide +kernel
theorem dk_P_71 : decode prog_2_method_1_code 71 = .ok (.aload_n 0, 1) := by decide +kernel
theorem dk_P_72 : decode prog_2_method_1_code 72 = .ok (.aload_n 1, 1) := by decide +kernel
theorem kw_P_f45 : Cond.fieldLink cn_P 45 cn_P "variables" "LRangeReckoner$Variables;" ∈ zT := zt_m1 176 rfl rfl
theorem dk_P_73 : decode prog_2_method_1_code 73 = .ok (.putfield 45, 3) := by decide +kernel
theorem dk_P_76 : decode prog_2_method_1_code 76 = .ok (.aload_n 0, 1) := by decide +kernel
theorem dk_P_77 : decode prog_2_method_1_code 77 = .ok (.new 49, 3) := by decide +kernel
theorem kw_P_cl49 : Cond.classLink cn_P 49 cn_K ∈ zT := zt_m1 151 rfl rfl
theorem kw_in_K : Cond.instantiable cn_K 5 ∈ zT := zt_m1 152 rfl rfl
theorem dk_P_80 : decode prog_2_method_1_code 80 = .ok (.dup, 1) := by decide +kernel
theorem dk_P_81 : decode prog_2_method_1_code 81 = .ok (.aload_n 2, 1) := by decide +kernel
theorem dk_P_82 : decode prog_2_method_1_code 82 = .ok (.invokespecial 51, 3) := by decide +kernel
theorem kw_P_f54 : Cond.fieldLink cn_P 54 cn_P "tokens" "LRangeReckoner$Tokens;" ∈ zT := zt_m1 177 rfl rfl
theorem dk_P_85 : decode prog_2_method_1_code 85 = .ok (.putfield 54, 3) := by decide +kernel
theorem dk_P_88 : decode prog_2_method_1_code 88 = .ok (.aload_n 0, 1) := by decide +kernel
theorem dk_P_89 : decode prog_2_method_1_code 89 = .ok (.aload_n 3, 1) := by decide +kernel
theorem kw_P_f58 : Cond.fieldLink cn_P 58 cn_P "term" "LRangeReckoner$Term;" ∈ zT := zt_m1 184 rfl rfl
theorem dk_P_90 : decode prog_2_method_1_code 90 = .ok (.putfield 58, 3) := by decide +kernel
theorem dk_P_93 : decode prog_2_method_1_code 93 = .ok (.return_, 1) := by decide +kernel
def ou_P (E : zE) (b : Nat) (v : Nat) (a : Nat) (t : Nat) (u : List Nat) : va_W := [(b, .inr (4, [.ref v, .ref (u.getD 8 0), .ref (u.getD 0 0), .ref (u.getD 4 0), .int 0, .ref (u.getD 5 0), .ref (u.getD 6 0), .ref (u.getD 7 0), .ref t, .int 3, .int 0])), ((u.getD 0 0), .inr (6, [.ref (u.getD 1 0), .ref (u.getD 2 0), .ref (u.getD 3 0), .int 0, .int 0])), ((u.getD 1 0), kI E 197), ((u.getD 2 0), kI E 197), ((u.getD 3 0), kI E 197), ((u.getD 4 0), kI E 100), ((u.getD 5 0), .inr (7, [.long 0, .long 0])), ((u.getD 6 0), .inr (7, [.long 0, .long 0])), ((u.getD 7 0), .inr (7, [.long 0, .long 0])), ((u.getD 8 0), .inr (5, [.ref a, .int 0, .int 1, .int 0, .int 0]))]
set_option maxRecDepth 100000 in
set_option maxHeartbeats 4000000 in
theorem k_P {l : Launch} {E : zE} {G : (Nat → Prop) → State → Prop} (hGr : zGr G) (b : Nat) (v : Nat) (a : Nat) (t : Nat) : Ck l E xcl xN zT G 2 51 9 707 y_P_init prog_2_method_1_code 4 4 [.null, .null, .null, .null, .int 0, .null, .null, .null, .null, .int 0, .int 0] b [.ref v, .ref a, .ref t] (ou_P E b v a t) := by
  refine Ck.of (by decide) (Nat.le_of_ble_eq_true rfl) xX ?_
  intro p e s m below meth c A C hr hnm
  refine g_lv (lv2 := [some (.ref b), some (.ref v), some (.ref a), some (.ref t)]) rfl ?_
  refine g_aload_n C (i := 0) dk_P_0 rfl rfl ?_
  refine g_objInit C kw_P_ob kw_oi kw_oc dk_P_1 (Nat.le_of_ble_eq_true rfl) (Nat.le_of_ble_eq_true rfl) (Nat.le_of_ble_eq_true rfl) ?_
  refine g_aload_n C (i := 0) dk_P_4 rfl rfl ?_
  refine g_new C (K := cn_G) (F := cf_G) (n := 5) (ci := 6) (fs := [.null, .null, .null, .int 0, .int 0]) ct_G ty_G in_G kw_P_cl9 kw_in_G kc_G_n rfl df_G (Nat.le_of_ble_eq_true rfl) (Nat.le_of_ble_eq_true rfl) dk_P_5 (fun q5 => ?_)
  refine g_ws (ws2 := [(b, .inr (4, [.null, .null, .null, .null, .int 0, .null, .null, .null, .null, .int 0, .int 0])), (q5, .inr (6, [.null, .null, .null, .int 0, .int 0]))]) rfl ?_
  refine g_dup C dk_P_8 rfl ?_
  refine g_initN ⟨xN_ok, hGr⟩ zT_good C (i0 := 1) (wr := [(b, .inr (4, [.null, .null, .null, .null, .int 0, .null, .null, .null, .null, .int 0, .int 0]))]) (isR := [0]) (k_G hGr q5) kc_G_i kc_G_n kc_G_c (List.mem_of_getElem? (i := 9) rfl) rfl (Nat.le_of_ble_eq_true rfl) (Nat.le_of_ble_eq_true rfl) kc_G_p rfl rfl (Nat.le_of_ble_eq_true rfl) dk_P_9 rfl rfl rfl rfl (by decide) (Nat.le_of_ble_eq_true rfl) (Nat.le_of_ble_eq_true rfl) (fun u9 => ?_)
  refine g_ws (ws2 := [(b, .inr (4, [.null, .null, .null, .null, .int 0, .null, .null, .null, .null, .int 0, .int 0])), (q5, .inr (6, [.ref (u9.getD 0 0), .ref (u9.getD 1 0), .ref (u9.getD 2 0), .int 0, .int 0])), ((u9.getD 0 0), kI E 197), ((u9.getD 1 0), kI E 197), ((u9.getD 2 0), kI E 197)]) rfl ?_
  refine g_putF C (F := cf_P) (n := 11) (j := 2) (ci := 4) (ty := .object "RangeReckoner$Pending") (v := .ref q5) hnm ct_P ty_P nm_P in_P 0 rfl rfl (by decide) kw_P_f12 rfl rfl (by decide +kernel) rfl rfl (Nat.le_of_ble_eq_true rfl) dk_P_12 ?_
  refine g_ws (ws2 := [(b, .inr (4, [.null, .null, .ref q5, .null, .int 0, .null, .null, .null, .null, .int 0, .int 0])), (q5, .inr (6, [.ref (u9.getD 0 0), .ref (u9.getD 1 0), .ref (u9.getD 2 0), .int 0, .int 0])), ((u9.getD 0 0), kI E 197), ((u9.getD 1 0), kI E 197), ((u9.getD 2 0), kI E 197)]) rfl ?_
  refine g_aload_n C (i := 0) dk_P_15 rfl rfl ?_
  refine g_bipush C (v := 100) dk_P_16 (by decide) ?_
  refine g_newI C (n' := 100) kw_aI (by decide) (by decide) (by decide) (Nat.le_of_ble_eq_true rfl) (Nat.le_of_ble_eq_true rfl) dk_P_18 (fun q18 => ?_)
  refine g_ws (ws2 := [(b, .inr (4, [.null, .null, .ref q5, .null, .int 0, .null, .null, .null, .null, .int 0, .int 0])), (q5, .inr (6, [.ref (u9.getD 0 0), .ref (u9.getD 1 0), .ref (u9.getD 2 0), .int 0, .int 0])), ((u9.getD 0 0), kI E 197), ((u9.getD 1 0), kI E 197), ((u9.getD 2 0), kI E 197), (q18, kI E 100)]) rfl ?_
  refine g_putF C (F := cf_P) (n := 11) (j := 3) (ci := 4) (ty := .array .int) (v := .ref q18) hnm ct_P ty_P nm_P in_P 0 rfl rfl (by decide) kw_P_f18 rfl rfl (by decide +kernel) rfl rfl (Nat.le_of_ble_eq_true rfl) dk_P_20 ?_
  refine g_ws (ws2 := [(b, .inr (4, [.null, .null, .ref q5, .ref q18, .int 0, .null, .null, .null, .null, .int 0, .int 0])), (q5, .inr (6, [.ref (u9.getD 0 0), .ref (u9.getD 1 0), .ref (u9.getD 2 0), .int 0, .int 0])), ((u9.getD 0 0), kI E 197), ((u9.getD 1 0), kI E 197), ((u9.getD 2 0), kI E 197), (q18, kI E 100)]) rfl ?_
  refine g_aload_n C (i := 0) dk_P_23 rfl rfl ?_
  refine g_iconst C (v := 0) dk_P_24 (by decide) ?_
  refine g_put C (F := cf_P) (n := 11) (j := 4) (ci := 4) (ty := .int) (v := .int 0) ct_P ty_P nm_P in_P 0 rfl rfl (by decide) kw_P_f22 rfl rfl (by decide +kernel) rfl rfl (Nat.le_of_ble_eq_true rfl) dk_P_25 ?_
  refine g_ws (ws2 := [(b, .inr (4, [.null, .null, .ref q5, .ref q18, .int 0, .null, .null, .null, .null, .int 0, .int 0])), (q5, .inr (6, [.ref (u9.getD 0 0), .ref (u9.getD 1 0), .ref (u9.getD 2 0), .int 0, .int 0])), ((u9.getD 0 0), kI E 197), ((u9.getD 1 0), kI E 197), ((u9.getD 2 0), kI E 197), (q18, kI E 100)]) rfl ?_
  refine g_aload_n C (i := 0) dk_P_28 rfl rfl ?_
  refine g_new C (K := cn_N) (F := cf_N) (n := 2) (ci := 7) (fs := [.long 0, .long 0]) ct_N ty_N in_N kw_P_cl26 kw_in_N kc_N_n rfl df_N (Nat.le_of_ble_eq_true rfl) (Nat.le_of_ble_eq_true rfl) dk_P_29 (fun q29 => ?_)
  refine g_ws (ws2 := [(b, .inr (4, [.null, .null, .ref q5, .ref q18, .int 0, .null, .null, .null, .null, .int 0, .int 0])), (q5, .inr (6, [.ref (u9.getD 0 0), .ref (u9.getD 1 0), .ref (u9.getD 2 0), .int 0, .int 0])), ((u9.getD 0 0), kI E 197), ((u9.getD 1 0), kI E 197), ((u9.getD 2 0), kI E 197), (q18, kI E 100), (q29, .inr (7, [.long 0, .long 0]))]) rfl ?_
  refine g_dup C dk_P_32 rfl ?_
  refine g_initN ⟨xN_ok, hGr⟩ zT_good C (i0 := 6) (wr := [(b, .inr (4, [.null, .null, .ref q5, .ref q18, .int 0, .null, .null, .null, .null, .int 0, .int 0])), (q5, .inr (6, [.ref (u9.getD 0 0), .ref (u9.getD 1 0), .ref (u9.getD 2 0), .int 0, .int 0])), ((u9.getD 0 0), kI E 197), ((u9.getD 1 0), kI E 197), ((u9.getD 2 0), kI E 197), (q18, kI E 100)]) (isR := [0, 1, 2, 3, 4, 5]) (k_N hGr q29) kc_N_i kc_N_n kc_N_c (List.mem_of_getElem? (i := 12) rfl) rfl (Nat.le_of_ble_eq_true rfl) (Nat.le_of_ble_eq_true rfl) kc_N_p rfl rfl (Nat.le_of_ble_eq_true rfl) dk_P_33 rfl rfl rfl rfl (by decide) (Nat.le_of_ble_eq_true rfl) (Nat.le_of_ble_eq_true rfl) (fun u33 => ?_)
  refine g_ws (ws2 := [(b, .inr (4, [.null, .null, .ref q5, .ref q18, .int 0, .null, .null, .null, .null, .int 0, .int 0])), (q5, .inr (6, [.ref (u9.getD 0 0), .ref (u9.getD 1 0), .ref (u9.getD 2 0), .int 0, .int 0])), ((u9.getD 0 0), kI E 197), ((u9.getD 1 0), kI E 197), ((u9.getD 2 0), kI E 197), (q18, kI E 100), (q29, .inr (7, [.long 0, .long 0]))]) rfl ?_
  refine g_putF C (F := cf_P) (n := 11) (j := 5) (ci := 4) (ty := .object "RangeReckoner$Range") (v := .ref q29) hnm ct_P ty_P nm_P in_P 0 rfl rfl (by decide) kw_P_f29 rfl rfl (by decide +kernel) rfl rfl (Nat.le_of_ble_eq_true rfl) dk_P_36 ?_
  refine g_ws (ws2 := [(b, .inr (4, [.null, .null, .ref q5, .ref q18, .int 0, .ref q29, .null, .null, .null, .int 0, .int 0])), (q5, .inr (6, [.ref (u9.getD 0 0), .ref (u9.getD 1 0), .ref (u9.getD 2 0), .int 0, .int 0])), ((u9.getD 0 0), kI E 197), ((u9.getD 1 0), kI E 197), ((u9.getD 2 0), kI E 197), (q18, kI E 100), (q29, .inr (7, [.long 0, .long 0]))]) rfl ?_
  refine g_aload_n C (i := 0) dk_P_39 rfl rfl ?_
  refine g_new C (K := cn_N) (F := cf_N) (n := 2) (ci := 7) (fs := [.long 0, .long 0]) ct_N ty_N in_N kw_P_cl26 kw_in_N kc_N_n rfl df_N (Nat.le_of_ble_eq_true rfl) (Nat.le_of_ble_eq_true rfl) dk_P_40 (fun q40 => ?_)
  refine g_ws (ws2 := [(b, .inr (4, [.null, .null, .ref q5, .ref q18, .int 0, .ref q29, .null, .null, .null, .int 0, .int 0])), (q5, .inr (6, [.ref (u9.getD 0 0), .ref (u9.getD 1 0), .ref (u9.getD 2 0), .int 0, .int 0])), ((u9.getD 0 0), kI E 197), ((u9.getD 1 0), kI E 197), ((u9.getD 2 0), kI E 197), (q18, kI E 100), (q29, .inr (7, [.long 0, .long 0])), (q40, .inr (7, [.long 0, .long 0]))]) rfl ?_
  refine g_dup C dk_P_43 rfl ?_
  refine g_initN ⟨xN_ok, hGr⟩ zT_good C (i0 := 7) (wr := [(b, .inr (4, [.null, .null, .ref q5, .ref q18, .int 0, .ref q29, .null, .null, .null, .int 0, .int 0])), (q5, .inr (6, [.ref (u9.getD 0 0), .ref (u9.getD 1 0), .ref (u9.getD 2 0), .int 0, .int 0])), ((u9.getD 0 0), kI E 197), ((u9.getD 1 0), kI E 197), ((u9.getD 2 0), kI E 197), (q18, kI E 100), (q29, .inr (7, [.long 0, .long 0]))]) (isR := [0, 1, 2, 3, 4, 5, 6]) (k_N hGr q40) kc_N_i kc_N_n kc_N_c (List.mem_of_getElem? (i := 12) rfl) rfl (Nat.le_of_ble_eq_true rfl) (Nat.le_of_ble_eq_true rfl) kc_N_p rfl rfl (Nat.le_of_ble_eq_true rfl) dk_P_44 rfl rfl rfl rfl (by decide) (Nat.le_of_ble_eq_true rfl) (Nat.le_of_ble_eq_true rfl) (fun u44 => ?_)
  refine g_ws (ws2 := [(b, .inr (4, [.null, .null, .ref q5, .ref q18, .int 0, .ref q29, .null, .null, .null, .int 0, .int 0])), (q5, .inr (6, [.ref (u9.getD 0 0), .ref (u9.getD 1 0), .ref (u9.getD 2 0), .int 0, .int 0])), ((u9.getD 0 0), kI E 197), ((u9.getD 1 0), kI E 197), ((u9.getD 2 0), kI E 197), (q18, kI E 100), (q29, .inr (7, [.long 0, .long 0])), (q40, .inr (7, [.long 0, .long 0]))]) rfl ?_
  refine g_putF C (F := cf_P) (n := 11) (j := 6) (ci := 4) (ty := .object "RangeReckoner$Range") (v := .ref q40) hnm ct_P ty_P nm_P in_P 0 rfl rfl (by decide) kw_P_f33 rfl rfl (by decide +kernel) rfl rfl (Nat.le_of_ble_eq_true rfl) dk_P_47 ?_
  refine g_ws (ws2 := [(b, .inr (4, [.null, .null, .ref q5, .ref q18, .int 0, .ref q29, .ref q40, .null, .null, .int 0, .int 0])), (q5, .inr (6, [.ref (u9.getD 0 0), .ref (u9.getD 1 0), .ref (u9.getD 2 0), .int 0, .int 0])), ((u9.getD 0 0), kI E 197), ((u9.getD 1 0), kI E 197), ((u9.getD 2 0), kI E 197), (q18, kI E 100), (q29, .inr (7, [.long 0, .long 0])), (q40, .inr (7, [.long 0, .long 0]))]) rfl ?_
  refine g_aload_n C (i := 0) dk_P_50 rfl rfl ?_
  refine g_new C (K := cn_N) (F := cf_N) (n := 2) (ci := 7) (fs := [.long 0, .long 0]) ct_N ty_N in_N kw_P_cl26 kw_in_N kc_N_n rfl df_N (Nat.le_of_ble_eq_true rfl) (Nat.le_of_ble_eq_true rfl) dk_P_51 (fun q51 => ?_)
  refine g_ws (ws2 := [(b, .inr (4, [.null, .null, .ref q5, .ref q18, .int 0, .ref q29, .ref q40, .null, .null, .int 0, .int 0])), (q5, .inr (6, [.ref (u9.getD 0 0), .ref (u9.getD 1 0), .ref (u9.getD 2 0), .int 0, .int 0])), ((u9.getD 0 0), kI E 197), ((u9.getD 1 0), kI E 197), ((u9.getD 2 0), kI E 197), (q18, kI E 100), (q29, .inr (7, [.long 0, .long 0])), (q40, .inr (7, [.long 0, .long 0])), (q51, .inr (7, [.long 0, .long 0]))]) rfl ?_
  refine g_dup C dk_P_54 rfl ?_
  refine g_initN ⟨xN_ok, hGr⟩ zT_good C (i0 := 8) (wr := [(b, .inr (4, [.null, .null, .ref q5, .ref q18, .int 0, .ref q29, .ref q40, .null, .null, .int 0, .int 0])), (q5, .inr (6, [.ref (u9.getD 0 0), .ref (u9.getD 1 0), .ref (u9.getD 2 0), .int 0, .int 0])), ((u9.getD 0 0), kI E 197), ((u9.getD 1 0), kI E 197), ((u9.getD 2 0), kI E 197), (q18, kI E 100), (q29, .inr (7, [.long 0, .long 0])), (q40, .inr (7, [.long 0, .long 0]))]) (isR := [0, 1, 2, 3, 4, 5, 6, 7]) (k_N hGr q51) kc_N_i kc_N_n kc_N_c (List.mem_of_getElem? (i := 12) rfl) rfl (Nat.le_of_ble_eq_true rfl) (Nat.le_of_ble_eq_true rfl) kc_N_p rfl rfl (Nat.le_of_ble_eq_true rfl) dk_P_55 rfl rfl rfl rfl (by decide) (Nat.le_of_ble_eq_true rfl) (Nat.le_of_ble_eq_true rfl) (fun u55 => ?_)
  refine g_ws (ws2 := [(b, .inr (4, [.null, .null, .ref q5, .ref q18, .int 0, .ref q29, .ref q40, .null, .null, .int 0, .int 0])), (q5, .inr (6, [.ref (u9.getD 0 0), .ref (u9.getD 1 0), .ref (u9.getD 2 0), .int 0, .int 0])), ((u9.getD 0 0), kI E 197), ((u9.getD 1 0), kI E 197), ((u9.getD 2 0), kI E 197), (q18, kI E 100), (q29, .inr (7, [.long 0, .long 0])), (q40, .inr (7, [.long 0, .long 0])), (q51, .inr (7, [.long 0, .long 0]))]) rfl ?_
  refine g_putF C (F := cf_P) (n := 11) (j := 7) (ci := 4) (ty := .object "RangeReckoner$Range") (v := .ref q51) hnm ct_P ty_P nm_P in_P 0 rfl rfl (by decide) kw_P_f36 rfl rfl (by decide +kernel) rfl rfl (Nat.le_of_ble_eq_true rfl) dk_P_58 ?_
  refine g_ws (ws2 := [(b, .inr (4, [.null, .null, .ref q5, .ref q18, .int 0, .ref q29, .ref q40, .ref q51, .null, .int 0, .int 0])), (q5, .inr (6, [.ref (u9.getD 0 0), .ref (u9.getD 1 0), .ref (u9.getD 2 0), .int 0, .int 0])), ((u9.getD 0 0), kI E 197), ((u9.getD 1 0), kI E 197), ((u9.getD 2 0), kI E 197), (q18, kI E 100), (q29, .inr (7, [.long 0, .long 0])), (q40, .inr (7, [.long 0, .long 0])), (q51, .inr (7, [.long 0, .long 0]))]) rfl ?_
  refine g_aload_n C (i := 0) dk_P_61 rfl rfl ?_
  refine g_iconst C (v := 3) dk_P_62 (by decide) ?_
  refine g_put C (F := cf_P) (n := 11) (j := 9) (ci := 4) (ty := .int) (v := .int 3) ct_P ty_P nm_P in_P 0 rfl rfl (by decide) kw_P_f39 rfl rfl (by decide +kernel) rfl rfl (Nat.le_of_ble_eq_true rfl) dk_P_63 ?_
  refine g_ws (ws2 := [(b, .inr (4, [.null, .null, .ref q5, .ref q18, .int 0, .ref q29, .ref q40, .ref q51, .null, .int 3, .int 0])), (q5, .inr (6, [.ref (u9.getD 0 0), .ref (u9.getD 1 0), .ref (u9.getD 2 0), .int 0, .int 0])), ((u9.getD 0 0), kI E 197), ((u9.getD 1 0), kI E 197), ((u9.getD 2 0), kI E 197), (q18, kI E 100), (q29, .inr (7, [.long 0, .long 0])), (q40, .inr (7, [.long 0, .long 0])), (q51, .inr (7, [.long 0, .long 0]))]) rfl ?_
  refine g_aload_n C (i := 0) dk_P_66 rfl rfl ?_
  refine g_iconst C (v := 0) dk_P_67 (by decide) ?_
  refine g_put C (F := cf_P) (n := 11) (j := 10) (ci := 4) (ty := .int) (v := .int 0) ct_P ty_P nm_P in_P 0 rfl rfl (by decide) kw_P_f42 rfl rfl (by decide +kernel) rfl rfl (Nat.le_of_ble_eq_true rfl) dk_P_68 ?_
  refine g_ws (ws2 := [(b, .inr (4, [.null, .null, .ref q5, .ref q18, .int 0, .ref q29, .ref q40, .ref q51, .null, .int 3, .int 0])), (q5, .inr (6, [.ref (u9.getD 0 0), .ref (u9.getD 1 0), .ref (u9.getD 2 0), .int 0, .int 0])), ((u9.getD 0 0), kI E 197), ((u9.getD 1 0), kI E 197), ((u9.getD 2 0), kI E 197), (q18, kI E 100), (q29, .inr (7, [.long 0, .long 0])), (q40, .inr (7, [.long 0, .long 0])), (q51, .inr (7, [.long 0, .long 0]))]) rfl ?_
  refine g_aload_n C (i := 0) dk_P_71 rfl rfl ?_
  refine g_aload_n C (i := 1) dk_P_72 rfl rfl ?_
  refine g_putF C (F := cf_P) (n := 11) (j := 0) (ci := 4) (ty := .object "RangeReckoner$Variables") (v := .ref v) hnm ct_P ty_P nm_P in_P 0 rfl rfl (by decide) kw_P_f45 rfl rfl (by decide +kernel) rfl rfl (Nat.le_of_ble_eq_true rfl) dk_P_73 ?_
  refine g_ws (ws2 := [(b, .inr (4, [.ref v, .null, .ref q5, .ref q18, .int 0, .ref q29, .ref q40, .ref q51, .null, .int 3, .int 0])), (q5, .inr (6, [.ref (u9.getD 0 0), .ref (u9.getD 1 0), .ref (u9.getD 2 0), .int 0, .int 0])), ((u9.getD 0 0), kI E 197), ((u9.getD 1 0), kI E 197), ((u9.getD 2 0), kI E 197), (q18, kI E 100), (q29, .inr (7, [.long 0, .long 0])), (q40, .inr (7, [.long 0, .long 0])), (q51, .inr (7, [.long 0, .long 0]))]) rfl ?_
  refine g_aload_n C (i := 0) dk_P_76 rfl rfl ?_
  refine g_new C (K := cn_K) (F := cf_K) (n := 5) (ci := 5) (fs := [.null, .int 0, .int 0, .int 0, .int 0]) ct_K ty_K in_K kw_P_cl49 kw_in_K kc_K_n rfl df_K (Nat.le_of_ble_eq_true rfl) (Nat.le_of_ble_eq_true rfl) dk_P_77 (fun q77 => ?_)
  refine g_ws (ws2 := [(b, .inr (4, [.ref v, .null, .ref q5, .ref q18, .int 0, .ref q29, .ref q40, .ref q51, .null, .int 3, .int 0])), (q5, .inr (6, [.ref (u9.getD 0 0), .ref (u9.getD 1 0), .ref (u9.getD 2 0), .int 0, .int 0])), ((u9.getD 0 0), kI E 197), ((u9.getD 1 0), kI E 197), ((u9.getD 2 0), kI E 197), (q18, kI E 100), (q29, .inr (7, [.long 0, .long 0])), (q40, .inr (7, [.long 0, .long 0])), (q51, .inr (7, [.long 0, .long 0])), (q77, .inr (5, [.null, .int 0, .int 0, .int 0, .int 0]))]) rfl ?_
  refine g_dup C dk_P_80 rfl ?_
  refine g_aload_n C (i := 2) dk_P_81 rfl rfl ?_
  refine g_initN ⟨xN_ok, hGr⟩ zT_good C (i0 := 9) (wr := [(b, .inr (4, [.ref v, .null, .ref q5, .ref q18, .int 0, .ref q29, .ref q40, .ref q51, .null, .int 3, .int 0])), (q5, .inr (6, [.ref (u9.getD 0 0), .ref (u9.getD 1 0), .ref (u9.getD 2 0), .int 0, .int 0])), ((u9.getD 0 0), kI E 197), ((u9.getD 1 0), kI E 197), ((u9.getD 2 0), kI E 197), (q18, kI E 100), (q29, .inr (7, [.long 0, .long 0])), (q40, .inr (7, [.long 0, .long 0])), (q51, .inr (7, [.long 0, .long 0]))]) (isR := [0, 1, 2, 3, 4, 5, 6, 7, 8]) (k_K hGr q77 a) kc_K_i kc_K_n kc_K_c (List.mem_of_getElem? (i := 15) rfl) rfl (Nat.le_of_ble_eq_true rfl) (Nat.le_of_ble_eq_true rfl) kc_K_p rfl rfl (Nat.le_of_ble_eq_true rfl) dk_P_82 rfl rfl rfl rfl (by decide) (Nat.le_of_ble_eq_true rfl) (Nat.le_of_ble_eq_true rfl) (fun u82 => ?_)
  refine g_ws (ws2 := [(b, .inr (4, [.ref v, .null, .ref q5, .ref q18, .int 0, .ref q29, .ref q40, .ref q51, .null, .int 3, .int 0])), (q5, .inr (6, [.ref (u9.getD 0 0), .ref (u9.getD 1 0), .ref (u9.getD 2 0), .int 0, .int 0])), ((u9.getD 0 0), kI E 197), ((u9.getD 1 0), kI E 197), ((u9.getD 2 0), kI E 197), (q18, kI E 100), (q29, .inr (7, [.long 0, .long 0])), (q40, .inr (7, [.long 0, .long 0])), (q51, .inr (7, [.long 0, .long 0])), (q77, .inr (5, [.ref a, .int 0, .int 1, .int 0, .int 0]))]) rfl ?_
  refine g_putF C (F := cf_P) (n := 11) (j := 1) (ci := 4) (ty := .object "RangeReckoner$Tokens") (v := .ref q77) hnm ct_P ty_P nm_P in_P 0 rfl rfl (by decide) kw_P_f54 rfl rfl (by decide +kernel) rfl rfl (Nat.le_of_ble_eq_true rfl) dk_P_85 ?_
  refine g_ws (ws2 := [(b, .inr (4, [.ref v, .ref q77, .ref q5, .ref q18, .int 0, .ref q29, .ref q40, .ref q51, .null, .int 3, .int 0])), (q5, .inr (6, [.ref (u9.getD 0 0), .ref (u9.getD 1 0), .ref (u9.getD 2 0), .int 0, .int 0])), ((u9.getD 0 0), kI E 197), ((u9.getD 1 0), kI E 197), ((u9.getD 2 0), kI E 197), (q18, kI E 100), (q29, .inr (7, [.long 0, .long 0])), (q40, .inr (7, [.long 0, .long 0])), (q51, .inr (7, [.long 0, .long 0])), (q77, .inr (5, [.ref a, .int 0, .int 1, .int 0, .int 0]))]) rfl ?_
  refine g_aload_n C (i := 0) dk_P_88 rfl rfl ?_
  refine g_aload_n C (i := 3) dk_P_89 rfl rfl ?_
  refine g_put C (F := cf_P) (n := 11) (j := 8) (ci := 4) (ty := .object "RangeReckoner$Term") (v := .ref t) ct_P ty_P nm_P in_P 0 rfl rfl (by decide) kw_P_f58 rfl rfl (by decide +kernel) rfl rfl (Nat.le_of_ble_eq_true rfl) dk_P_90 ?_
  refine g_ws (ws2 := [(b, .inr (4, [.ref v, .ref q77, .ref q5, .ref q18, .int 0, .ref q29, .ref q40, .ref q51, .ref t, .int 3, .int 0])), (q5, .inr (6, [.ref (u9.getD 0 0), .ref (u9.getD 1 0), .ref (u9.getD 2 0), .int 0, .int 0])), ((u9.getD 0 0), kI E 197), ((u9.getD 1 0), kI E 197), ((u9.getD 2 0), kI E 197), (q18, kI E 100), (q29, .inr (7, [.long 0, .long 0])), (q40, .inr (7, [.long 0, .long 0])), (q51, .inr (7, [.long 0, .long 0])), (q77, .inr (5, [.ref a, .int 0, .int 1, .int 0, .int 0]))]) rfl ?_
  exact g_vret C hr dk_P_93 [q5, (u9.getD 0 0), (u9.getD 1 0), (u9.getD 2 0), q18, q29, q40, q51, q77] rfl (Nat.le_of_ble_eq_true rfl) (Nat.le_of_ble_eq_true rfl)
def y_R_init : MethodName := ⟨cn_R, "<init>", "()V"⟩
theorem kc_R_c : Cond.code y_R_init prog_1_method_1_code 1 none ∈ zT := zt_m1 23 rfl rfl
theorem kc_R_i : Cond.instanceMethod y_R_init ∈ zT := zt_m1 22 rfl rfl
theorem kc_R_n : Cond.initialized y_R_init.cls ∈ zT := zt_m1 1 rfl rfl
theorem kc_R_p : y_R_init.cls ≠ "java/lang/invoke/MethodHandle" ∧ y_R_init.cls ≠ "java/lang/invoke/VarHandle" ∧ (parseMethodDescriptor y_R_init.desc).map (fun d => d.parameters.length) = some 0 := by decide +kernel
theorem dk_R_0 : decode prog_1_method_1_code 0 = .ok (.aload_n 0, 1) := by decide +kernel
theorem dk_R_1 : decode prog_1_method_1_code 1 = .ok (.invokespecial 3, 3) := by decide +kernel
theorem kw_R_ob : Cond.methodLink cn_R 3 Lib.objectInit ∈ zT := zt_m1 24 rfl rfl
theorem dk_R_4 : decode prog_1_method_1_code 4 = .ok (.aload_n 0, 1) := by decide +kernel
theorem dk_R_5 : decode prog_1_method_1_code 5 = .ok (.new 9, 3) := by decide +kernel
theorem kw_R_cl9 : Cond.classLink cn_R 9 cn_V ∈ zT := zt_m1 27 rfl rfl
theorem kw_in_V : Cond.instantiable cn_V 4 ∈ zT := zt_m1 28 rfl rfl
theorem dk_R_8 : decode prog_1_method_1_code 8 = .ok (.dup, 1) := by decide +kernel
theorem dk_R_9 : decode prog_1_method_1_code 9 = .ok (.invokespecial 11, 3) := by decide +kernel
theorem kw_R_f12 : Cond.fieldLink cn_R 12 cn_R "variables" "LRangeReckoner$Variables;" ∈ zT := zt_m1 210 rfl rfl
theorem dk_R_12 : decode prog_1_method_1_code 12 = .ok (.putfield 12, 3) := by decide +kernel
theorem dk_R_15 : decode prog_1_method_1_code 15 = .ok (.aload_n 0, 1) := by decide +kernel
theorem dk_R_16 : decode prog_1_method_1_code 16 = .ok (.new 16, 3) := by decide +kernel
theorem kw_R_cl16 : Cond.classLink cn_R 16 cn_A ∈ zT := zt_m1 48 rfl rfl
theorem kw_in_A : Cond.instantiable cn_A 2 ∈ zT := zt_m1 49 rfl rfl
theorem dk_R_19 : decode prog_1_method_1_code 19 = .ok (.dup, 1) := by decide +kernel
theorem dk_R_20 : decode prog_1_method_1_code 20 = .ok (.invokespecial 18, 3) := by decide +kernel
theorem kw_R_f19 : Cond.fieldLink cn_R 19 cn_R "tape" "LRangeReckoner$Tape;" ∈ zT := zt_m1 211 rfl rfl
theorem dk_R_23 : decode prog_1_method_1_code 23 = .ok (.putfield 19, 3) := by decide +kernel
theorem dk_R_26 : decode prog_1_method_1_code 26 = .ok (.aload_n 0, 1) := by decide +kernel
theorem dk_R_27 : decode prog_1_method_1_code 27 = .ok (.new 23, 3) := by decide +kernel
theorem kw_R_cl23 : Cond.classLink cn_R 23 cn_T ∈ zT := zt_m1 63 rfl rfl
theorem kw_in_T : Cond.instantiable cn_T 11 ∈ zT := zt_m1 64 rfl rfl
theorem dk_R_30 : decode prog_1_method_1_code 30 = .ok (.dup, 1) := by decide +kernel
theorem dk_R_31 : decode prog_1_method_1_code 31 = .ok (.invokespecial 25, 3) := by decide +kernel
theorem kw_R_f26 : Cond.fieldLink cn_R 26 cn_R "term" "LRangeReckoner$Term;" ∈ zT := zt_m1 213 rfl rfl
theorem dk_R_34 : decode prog_1_method_1_code 34 = .ok (.putfield 26, 3) := by decide +kernel
theorem dk_R_37 : decode prog_1_method_1_code 37 = .ok (.aload_n 0, 1) := by decide +kernel
theorem dk_R_38 : decode prog_1_method_1_code 38 = .ok (.new 23, 3) := by decide +kernel
theorem dk_R_41 : decode prog_1_method_1_code 41 = .ok (.dup, 1) := by decide +kernel
theorem dk_R_42 : decode prog_1_method_1_code 42 = .ok (.invokespecial 25, 3) := by decide +kernel
theorem kw_R_f30 : Cond.fieldLink cn_R 30 cn_R "spare" "LRangeReckoner$Term;" ∈ zT := zt_m1 214 rfl rfl
theorem dk_R_45 : decode prog_1_method_1_code 45 = .ok (.putfield 30, 3) := by decide +kernel
theorem dk_R_48 : decode prog_1_method_1_code 48 = .ok (.aload_n 0, 1) := by decide +kernel
theorem dk_R_49 : decode prog_1_method_1_code 49 = .ok (.new 33, 3) := by decide +kernel
theorem kw_R_cl33 : Cond.classLink cn_R 33 cn_P ∈ zT := zt_m1 106 rfl rfl
theorem kw_in_P : Cond.instantiable cn_P 11 ∈ zT := zt_m1 107 rfl rfl
theorem dk_R_52 : decode prog_1_method_1_code 52 = .ok (.dup, 1) := by decide +kernel
theorem dk_R_53 : decode prog_1_method_1_code 53 = .ok (.aload_n 0, 1) := by decide +kernel
theorem dk_R_54 : decode prog_1_method_1_code 54 = .ok (.getfield 12, 3) := by decide +kernel
theorem dk_R_57 : decode prog_1_method_1_code 57 = .ok (.aload_n 0, 1) := by decide +kernel
theorem dk_R_58 : decode prog_1_method_1_code 58 = .ok (.getfield 19, 3) := by decide +kernel
theorem dk_R_61 : decode prog_1_method_1_code 61 = .ok (.aload_n 0, 1) := by decide +kernel
theorem dk_R_62 : decode prog_1_method_1_code 62 = .ok (.getfield 30, 3) := by decide +kernel
theorem dk_R_65 : decode prog_1_method_1_code 65 = .ok (.invokespecial 35, 3) := by decide +kernel
theorem kw_R_f38 : Cond.fieldLink cn_R 38 cn_R "parser" "LRangeReckoner$Parser;" ∈ zT := zt_m1 212 rfl rfl
theorem dk_R_68 : decode prog_1_method_1_code 68 = .ok (.putfield 38, 3) := by decide +kernel
theorem dk_R_71 : decode prog_1_method_1_code 71 = .ok (.return_, 1) := by decide +kernel
def ou_R (E : zE) (b : Nat) (u : List Nat) : va_W := [(b, .inr (0, [.ref (u.getD 0 0), .ref (u.getD 4 0), .ref (u.getD 28 0), .ref (u.getD 6 0), .ref (u.getD 17 0)])), ((u.getD 0 0), .inr (1, [.ref (u.getD 1 0), .ref (u.getD 2 0), .ref (u.getD 3 0), .int 0])), ((u.getD 1 0), kI E 20), ((u.getD 2 0), kI E 20), ((u.getD 3 0), kI E 20), ((u.getD 4 0), .inr (2, [.ref (u.getD 5 0), .int 0])), ((u.getD 5 0), kI E 400), ((u.getD 6 0), .inr (3, [.ref (u.getD 7 0), .ref (u.getD 8 0), .ref (u.getD 9 0), .ref (u.getD 10 0), .ref (u.getD 11 0), .ref (u.getD 12 0), .ref (u.getD 13 0), .ref (u.getD 14 0), .ref (u.getD 15 0), .ref (u.getD 16 0), .int 0])), ((u.getD 7 0), kI E 100), ((u.getD 8 0), kI E 100), ((u.getD 9 0), kI E 100), ((u.getD 10 0), kI E 100), ((u.getD 11 0), kI E 100), ((u.getD 12 0), kI E 100), ((u.getD 13 0), kI E 100), ((u.getD 14 0), kI E 100), ((u.getD 15 0), kI E 100), ((u.getD 16 0), kL E 100), ((u.getD 17 0), .inr (3, [.ref (u.getD 18 0), .ref (u.getD 19 0), .ref (u.getD 20 0), .ref (u.getD 21 0), .ref (u.getD 22 0), .ref (u.getD 23 0), .ref (u.getD 24 0), .ref (u.getD 25 0), .ref (u.getD 26 0), .ref (u.getD 27 0), .int 0])), ((u.getD 18 0), kI E 100), ((u.getD 19 0), kI E 100), ((u.getD 20 0), kI E 100), ((u.getD 21 0), kI E 100), ((u.getD 22 0), kI E 100), ((u.getD 23 0), kI E 100), ((u.getD 24 0), kI E 100), ((u.getD 25 0), kI E 100), ((u.getD 26 0), kI E 100), ((u.getD 27 0), kL E 100), ((u.getD 28 0), .inr (4, [.ref (u.getD 0 0), .ref (u.getD 29 0), .ref (u.getD 30 0), .ref (u.getD 34 0), .int 0, .ref (u.getD 35 0), .ref (u.getD 36 0), .ref (u.getD 37 0), .ref (u.getD 17 0), .int 3, .int 0])), ((u.getD 29 0), .inr (5, [.ref (u.getD 4 0), .int 0, .int 1, .int 0, .int 0])), ((u.getD 30 0), .inr (6, [.ref (u.getD 31 0), .ref (u.getD 32 0), .ref (u.getD 33 0), .int 0, .int 0])), ((u.getD 31 0), kI E 197), ((u.getD 32 0), kI E 197), ((u.getD 33 0), kI E 197), ((u.getD 34 0), kI E 100), ((u.getD 35 0), .inr (7, [.long 0, .long 0])), ((u.getD 36 0), .inr (7, [.long 0, .long 0])), ((u.getD 37 0), .inr (7, [.long 0, .long 0]))]
set_option maxRecDepth 100000 in
set_option maxHeartbeats 4000000 in
theorem k_R {l : Launch} {E : zE} {G : (Nat → Prop) → State → Prop} (hGr : zGr G) (b : Nat) : Ck l E xcl xN zT G 3 74 38 3206 y_R_init prog_1_method_1_code 1 0 [.null, .null, .null, .null, .null] b [] (ou_R E b) := by
  refine Ck.of (by decide) (Nat.le_of_ble_eq_true rfl) xX ?_
  intro p e s m below meth c A C hr hnm
  refine g_lv (lv2 := [some (.ref b)]) rfl ?_
  refine g_aload_n C (i := 0) dk_R_0 rfl rfl ?_
  refine g_objInit C kw_R_ob kw_oi kw_oc dk_R_1 (Nat.le_of_ble_eq_true rfl) (Nat.le_of_ble_eq_true rfl) (Nat.le_of_ble_eq_true rfl) ?_
  refine g_aload_n C (i := 0) dk_R_4 rfl rfl ?_
  refine g_new C (K := cn_V) (F := cf_V) (n := 4) (ci := 1) (fs := [.null, .null, .null, .int 0]) ct_V ty_V in_V kw_R_cl9 kw_in_V kc_V_n rfl df_V (Nat.le_of_ble_eq_true rfl) (Nat.le_of_ble_eq_true rfl) dk_R_5 (fun q5 => ?_)
  refine g_ws (ws2 := [(b, .inr (0, [.null, .null, .null, .null, .null])), (q5, .inr (1, [.null, .null, .null, .int 0]))]) rfl ?_
  refine g_dup C dk_R_8 rfl ?_
  refine g_initN ⟨xN_ok, hGr⟩ zT_good C (i0 := 1) (wr := [(b, .inr (0, [.null, .null, .null, .null, .null]))]) (isR := [0]) (k_V hGr q5) kc_V_i kc_V_n kc_V_c (List.mem_of_getElem? (i := 0) rfl) rfl (Nat.le_of_ble_eq_true rfl) (Nat.le_of_ble_eq_true rfl) kc_V_p rfl rfl (Nat.le_of_ble_eq_true rfl) dk_R_9 rfl rfl rfl rfl (by decide) (Nat.le_of_ble_eq_true rfl) (Nat.le_of_ble_eq_true rfl) (fun u9 => ?_)
  refine g_ws (ws2 := [(b, .inr (0, [.null, .null, .null, .null, .null])), (q5, .inr (1, [.ref (u9.getD 0 0), .ref (u9.getD 1 0), .ref (u9.getD 2 0), .int 0])), ((u9.getD 0 0), kI E 20), ((u9.getD 1 0), kI E 20), ((u9.getD 2 0), kI E 20)]) rfl ?_
  refine g_putF C (F := cf_R) (n := 5) (j := 0) (ci := 0) (ty := .object "RangeReckoner$Variables") (v := .ref q5) hnm ct_R ty_R nm_R in_R 0 rfl rfl (by decide) kw_R_f12 rfl rfl (by decide +kernel) rfl rfl (Nat.le_of_ble_eq_true rfl) dk_R_12 ?_
  refine g_ws (ws2 := [(b, .inr (0, [.ref q5, .null, .null, .null, .null])), (q5, .inr (1, [.ref (u9.getD 0 0), .ref (u9.getD 1 0), .ref (u9.getD 2 0), .int 0])), ((u9.getD 0 0), kI E 20), ((u9.getD 1 0), kI E 20), ((u9.getD 2 0), kI E 20)]) rfl ?_
  refine g_aload_n C (i := 0) dk_R_15 rfl rfl ?_
  refine g_new C (K := cn_A) (F := cf_A) (n := 2) (ci := 2) (fs := [.null, .int 0]) ct_A ty_A in_A kw_R_cl16 kw_in_A kc_A_n rfl df_A (Nat.le_of_ble_eq_true rfl) (Nat.le_of_ble_eq_true rfl) dk_R_16 (fun q16 => ?_)
  refine g_ws (ws2 := [(b, .inr (0, [.ref q5, .null, .null, .null, .null])), (q5, .inr (1, [.ref (u9.getD 0 0), .ref (u9.getD 1 0), .ref (u9.getD 2 0), .int 0])), ((u9.getD 0 0), kI E 20), ((u9.getD 1 0), kI E 20), ((u9.getD 2 0), kI E 20), (q16, .inr (2, [.null, .int 0]))]) rfl ?_
  refine g_dup C dk_R_19 rfl ?_
  refine g_initN ⟨xN_ok, hGr⟩ zT_good C (i0 := 5) (wr := [(b, .inr (0, [.ref q5, .null, .null, .null, .null])), (q5, .inr (1, [.ref (u9.getD 0 0), .ref (u9.getD 1 0), .ref (u9.getD 2 0), .int 0])), ((u9.getD 0 0), kI E 20), ((u9.getD 1 0), kI E 20), ((u9.getD 2 0), kI E 20)]) (isR := [0, 1, 2, 3, 4]) (k_A hGr q16) kc_A_i kc_A_n kc_A_c (List.mem_of_getElem? (i := 2) rfl) rfl (Nat.le_of_ble_eq_true rfl) (Nat.le_of_ble_eq_true rfl) kc_A_p rfl rfl (Nat.le_of_ble_eq_true rfl) dk_R_20 rfl rfl rfl rfl (by decide) (Nat.le_of_ble_eq_true rfl) (Nat.le_of_ble_eq_true rfl) (fun u20 => ?_)
  refine g_ws (ws2 := [(b, .inr (0, [.ref q5, .null, .null, .null, .null])), (q5, .inr (1, [.ref (u9.getD 0 0), .ref (u9.getD 1 0), .ref (u9.getD 2 0), .int 0])), ((u9.getD 0 0), kI E 20), ((u9.getD 1 0), kI E 20), ((u9.getD 2 0), kI E 20), (q16, .inr (2, [.ref (u20.getD 0 0), .int 0])), ((u20.getD 0 0), kI E 400)]) rfl ?_
  refine g_putF C (F := cf_R) (n := 5) (j := 1) (ci := 0) (ty := .object "RangeReckoner$Tape") (v := .ref q16) hnm ct_R ty_R nm_R in_R 0 rfl rfl (by decide) kw_R_f19 rfl rfl (by decide +kernel) rfl rfl (Nat.le_of_ble_eq_true rfl) dk_R_23 ?_
  refine g_ws (ws2 := [(b, .inr (0, [.ref q5, .ref q16, .null, .null, .null])), (q5, .inr (1, [.ref (u9.getD 0 0), .ref (u9.getD 1 0), .ref (u9.getD 2 0), .int 0])), ((u9.getD 0 0), kI E 20), ((u9.getD 1 0), kI E 20), ((u9.getD 2 0), kI E 20), (q16, .inr (2, [.ref (u20.getD 0 0), .int 0])), ((u20.getD 0 0), kI E 400)]) rfl ?_
  refine g_aload_n C (i := 0) dk_R_26 rfl rfl ?_
  refine g_new C (K := cn_T) (F := cf_T) (n := 11) (ci := 3) (fs := [.null, .null, .null, .null, .null, .null, .null, .null, .null, .null, .int 0]) ct_T ty_T in_T kw_R_cl23 kw_in_T kc_T_n rfl df_T (Nat.le_of_ble_eq_true rfl) (Nat.le_of_ble_eq_true rfl) dk_R_27 (fun q27 => ?_)
  refine g_ws (ws2 := [(b, .inr (0, [.ref q5, .ref q16, .null, .null, .null])), (q5, .inr (1, [.ref (u9.getD 0 0), .ref (u9.getD 1 0), .ref (u9.getD 2 0), .int 0])), ((u9.getD 0 0), kI E 20), ((u9.getD 1 0), kI E 20), ((u9.getD 2 0), kI E 20), (q16, .inr (2, [.ref (u20.getD 0 0), .int 0])), ((u20.getD 0 0), kI E 400), (q27, .inr (3, [.null, .null, .null, .null, .null, .null, .null, .null, .null, .null, .int 0]))]) rfl ?_
  refine g_dup C dk_R_30 rfl ?_
  refine g_initN ⟨xN_ok, hGr⟩ zT_good C (i0 := 7) (wr := [(b, .inr (0, [.ref q5, .ref q16, .null, .null, .null])), (q5, .inr (1, [.ref (u9.getD 0 0), .ref (u9.getD 1 0), .ref (u9.getD 2 0), .int 0])), ((u9.getD 0 0), kI E 20), ((u9.getD 1 0), kI E 20), ((u9.getD 2 0), kI E 20), (q16, .inr (2, [.ref (u20.getD 0 0), .int 0])), ((u20.getD 0 0), kI E 400)]) (isR := [0, 1, 2, 3, 4, 5, 6]) (k_T hGr q27) kc_T_i kc_T_n kc_T_c (List.mem_of_getElem? (i := 5) rfl) rfl (Nat.le_of_ble_eq_true rfl) (Nat.le_of_ble_eq_true rfl) kc_T_p rfl rfl (Nat.le_of_ble_eq_true rfl) dk_R_31 rfl rfl rfl rfl (by decide) (Nat.le_of_ble_eq_true rfl) (Nat.le_of_ble_eq_true rfl) (fun u31 => ?_)
  refine g_ws (ws2 := [(b, .inr (0, [.ref q5, .ref q16, .null, .null, .null])), (q5, .inr (1, [.ref (u9.getD 0 0), .ref (u9.getD 1 0), .ref (u9.getD 2 0), .int 0])), ((u9.getD 0 0), kI E 20), ((u9.getD 1 0), kI E 20), ((u9.getD 2 0), kI E 20), (q16, .inr (2, [.ref (u20.getD 0 0), .int 0])), ((u20.getD 0 0), kI E 400), (q27, .inr (3, [.ref (u31.getD 0 0), .ref (u31.getD 1 0), .ref (u31.getD 2 0), .ref (u31.getD 3 0), .ref (u31.getD 4 0), .ref (u31.getD 5 0), .ref (u31.getD 6 0), .ref (u31.getD 7 0), .ref (u31.getD 8 0), .ref (u31.getD 9 0), .int 0])), ((u31.getD 0 0), kI E 100), ((u31.getD 1 0), kI E 100), ((u31.getD 2 0), kI E 100), ((u31.getD 3 0), kI E 100), ((u31.getD 4 0), kI E 100), ((u31.getD 5 0), kI E 100), ((u31.getD 6 0), kI E 100), ((u31.getD 7 0), kI E 100), ((u31.getD 8 0), kI E 100), ((u31.getD 9 0), kL E 100)]) rfl ?_
  refine g_put C (F := cf_R) (n := 5) (j := 3) (ci := 0) (ty := .object "RangeReckoner$Term") (v := .ref q27) ct_R ty_R nm_R in_R 0 rfl rfl (by decide) kw_R_f26 rfl rfl (by decide +kernel) rfl rfl (Nat.le_of_ble_eq_true rfl) dk_R_34 ?_
  refine g_ws (ws2 := [(b, .inr (0, [.ref q5, .ref q16, .null, .ref q27, .null])), (q5, .inr (1, [.ref (u9.getD 0 0), .ref (u9.getD 1 0), .ref (u9.getD 2 0), .int 0])), ((u9.getD 0 0), kI E 20), ((u9.getD 1 0), kI E 20), ((u9.getD 2 0), kI E 20), (q16, .inr (2, [.ref (u20.getD 0 0), .int 0])), ((u20.getD 0 0), kI E 400), (q27, .inr (3, [.ref (u31.getD 0 0), .ref (u31.getD 1 0), .ref (u31.getD 2 0), .ref (u31.getD 3 0), .ref (u31.getD 4 0), .ref (u31.getD 5 0), .ref (u31.getD 6 0), .ref (u31.getD 7 0), .ref (u31.getD 8 0), .ref (u31.getD 9 0), .int 0])), ((u31.getD 0 0), kI E 100), ((u31.getD 1 0), kI E 100), ((u31.getD 2 0), kI E 100), ((u31.getD 3 0), kI E 100), ((u31.getD 4 0), kI E 100), ((u31.getD 5 0), kI E 100), ((u31.getD 6 0), kI E 100), ((u31.getD 7 0), kI E 100), ((u31.getD 8 0), kI E 100), ((u31.getD 9 0), kL E 100)]) rfl ?_
  refine g_aload_n C (i := 0) dk_R_37 rfl rfl ?_
  refine g_new C (K := cn_T) (F := cf_T) (n := 11) (ci := 3) (fs := [.null, .null, .null, .null, .null, .null, .null, .null, .null, .null, .int 0]) ct_T ty_T in_T kw_R_cl23 kw_in_T kc_T_n rfl df_T (Nat.le_of_ble_eq_true rfl) (Nat.le_of_ble_eq_true rfl) dk_R_38 (fun q38 => ?_)
  refine g_ws (ws2 := [(b, .inr (0, [.ref q5, .ref q16, .null, .ref q27, .null])), (q5, .inr (1, [.ref (u9.getD 0 0), .ref (u9.getD 1 0), .ref (u9.getD 2 0), .int 0])), ((u9.getD 0 0), kI E 20), ((u9.getD 1 0), kI E 20), ((u9.getD 2 0), kI E 20), (q16, .inr (2, [.ref (u20.getD 0 0), .int 0])), ((u20.getD 0 0), kI E 400), (q27, .inr (3, [.ref (u31.getD 0 0), .ref (u31.getD 1 0), .ref (u31.getD 2 0), .ref (u31.getD 3 0), .ref (u31.getD 4 0), .ref (u31.getD 5 0), .ref (u31.getD 6 0), .ref (u31.getD 7 0), .ref (u31.getD 8 0), .ref (u31.getD 9 0), .int 0])), ((u31.getD 0 0), kI E 100), ((u31.getD 1 0), kI E 100), ((u31.getD 2 0), kI E 100), ((u31.getD 3 0), kI E 100), ((u31.getD 4 0), kI E 100), ((u31.getD 5 0), kI E 100), ((u31.getD 6 0), kI E 100), ((u31.getD 7 0), kI E 100), ((u31.getD 8 0), kI E 100), ((u31.getD 9 0), kL E 100), (q38, .inr (3, [.null, .null, .null, .null, .null, .null, .null, .null, .null, .null, .int 0]))]) rfl ?_
  refine g_dup C dk_R_41 rfl ?_
  refine g_initN ⟨xN_ok, hGr⟩ zT_good C (i0 := 18) (wr := [(b, .inr (0, [.ref q5, .ref q16, .null, .ref q27, .null])), (q5, .inr (1, [.ref (u9.getD 0 0), .ref (u9.getD 1 0), .ref (u9.getD 2 0), .int 0])), ((u9.getD 0 0), kI E 20), ((u9.getD 1 0), kI E 20), ((u9.getD 2 0), kI E 20), (q16, .inr (2, [.ref (u20.getD 0 0), .int 0])), ((u20.getD 0 0), kI E 400), (q27, .inr (3, [.ref (u31.getD 0 0), .ref (u31.getD 1 0), .ref (u31.getD 2 0), .ref (u31.getD 3 0), .ref (u31.getD 4 0), .ref (u31.getD 5 0), .ref (u31.getD 6 0), .ref (u31.getD 7 0), .ref (u31.getD 8 0), .ref (u31.getD 9 0), .int 0])), ((u31.getD 0 0), kI E 100), ((u31.getD 1 0), kI E 100), ((u31.getD 2 0), kI E 100), ((u31.getD 3 0), kI E 100), ((u31.getD 4 0), kI E 100), ((u31.getD 5 0), kI E 100), ((u31.getD 6 0), kI E 100), ((u31.getD 7 0), kI E 100), ((u31.getD 8 0), kI E 100), ((u31.getD 9 0), kL E 100)]) (isR := [0, 1, 2, 3, 4, 5, 6, 7, 8, 9, 10, 11, 12, 13, 14, 15, 16, 17]) (k_T hGr q38) kc_T_i kc_T_n kc_T_c (List.mem_of_getElem? (i := 5) rfl) rfl (Nat.le_of_ble_eq_true rfl) (Nat.le_of_ble_eq_true rfl) kc_T_p rfl rfl (Nat.le_of_ble_eq_true rfl) dk_R_42 rfl rfl rfl rfl (by decide) (Nat.le_of_ble_eq_true rfl) (Nat.le_of_ble_eq_true rfl) (fun u42 => ?_)
  refine g_ws (ws2 := [(b, .inr (0, [.ref q5, .ref q16, .null, .ref q27, .null])), (q5, .inr (1, [.ref (u9.getD 0 0), .ref (u9.getD 1 0), .ref (u9.getD 2 0), .int 0])), ((u9.getD 0 0), kI E 20), ((u9.getD 1 0), kI E 20), ((u9.getD 2 0), kI E 20), (q16, .inr (2, [.ref (u20.getD 0 0), .int 0])), ((u20.getD 0 0), kI E 400), (q27, .inr (3, [.ref (u31.getD 0 0), .ref (u31.getD 1 0), .ref (u31.getD 2 0), .ref (u31.getD 3 0), .ref (u31.getD 4 0), .ref (u31.getD 5 0), .ref (u31.getD 6 0), .ref (u31.getD 7 0), .ref (u31.getD 8 0), .ref (u31.getD 9 0), .int 0])), ((u31.getD 0 0), kI E 100), ((u31.getD 1 0), kI E 100), ((u31.getD 2 0), kI E 100), ((u31.getD 3 0), kI E 100), ((u31.getD 4 0), kI E 100), ((u31.getD 5 0), kI E 100), ((u31.getD 6 0), kI E 100), ((u31.getD 7 0), kI E 100), ((u31.getD 8 0), kI E 100), ((u31.getD 9 0), kL E 100), (q38, .inr (3, [.ref (u42.getD 0 0), .ref (u42.getD 1 0), .ref (u42.getD 2 0), .ref (u42.getD 3 0), .ref (u42.getD 4 0), .ref (u42.getD 5 0), .ref (u42.getD 6 0), .ref (u42.getD 7 0), .ref (u42.getD 8 0), .ref (u42.getD 9 0), .int 0])), ((u42.getD 0 0), kI E 100), ((u42.getD 1 0), kI E 100), ((u42.getD 2 0), kI E 100), ((u42.getD 3 0), kI E 100), ((u42.getD 4 0), kI E 100), ((u42.getD 5 0), kI E 100), ((u42.getD 6 0), kI E 100), ((u42.getD 7 0), kI E 100), ((u42.getD 8 0), kI E 100), ((u42.getD 9 0), kL E 100)]) rfl ?_
  refine g_put C (F := cf_R) (n := 5) (j := 4) (ci := 0) (ty := .object "RangeReckoner$Term") (v := .ref q38) ct_R ty_R nm_R in_R 0 rfl rfl (by decide) kw_R_f30 rfl rfl (by decide +kernel) rfl rfl (Nat.le_of_ble_eq_true rfl) dk_R_45 ?_
  refine g_ws (ws2 := [(b, .inr (0, [.ref q5, .ref q16, .null, .ref q27, .ref q38])), (q5, .inr (1, [.ref (u9.getD 0 0), .ref (u9.getD 1 0), .ref (u9.getD 2 0), .int 0])), ((u9.getD 0 0), kI E 20), ((u9.getD 1 0), kI E 20), ((u9.getD 2 0), kI E 20), (q16, .inr (2, [.ref (u20.getD 0 0), .int 0])), ((u20.getD 0 0), kI E 400), (q27, .inr (3, [.ref (u31.getD 0 0), .ref (u31.getD 1 0), .ref (u31.getD 2 0), .ref (u31.getD 3 0), .ref (u31.getD 4 0), .ref (u31.getD 5 0), .ref (u31.getD 6 0), .ref (u31.getD 7 0), .ref (u31.getD 8 0), .ref (u31.getD 9 0), .int 0])), ((u31.getD 0 0), kI E 100), ((u31.getD 1 0), kI E 100), ((u31.getD 2 0), kI E 100), ((u31.getD 3 0), kI E 100), ((u31.getD 4 0), kI E 100), ((u31.getD 5 0), kI E 100), ((u31.getD 6 0), kI E 100), ((u31.getD 7 0), kI E 100), ((u31.getD 8 0), kI E 100), ((u31.getD 9 0), kL E 100), (q38, .inr (3, [.ref (u42.getD 0 0), .ref (u42.getD 1 0), .ref (u42.getD 2 0), .ref (u42.getD 3 0), .ref (u42.getD 4 0), .ref (u42.getD 5 0), .ref (u42.getD 6 0), .ref (u42.getD 7 0), .ref (u42.getD 8 0), .ref (u42.getD 9 0), .int 0])), ((u42.getD 0 0), kI E 100), ((u42.getD 1 0), kI E 100), ((u42.getD 2 0), kI E 100), ((u42.getD 3 0), kI E 100), ((u42.getD 4 0), kI E 100), ((u42.getD 5 0), kI E 100), ((u42.getD 6 0), kI E 100), ((u42.getD 7 0), kI E 100), ((u42.getD 8 0), kI E 100), ((u42.getD 9 0), kL E 100)]) rfl ?_
  refine g_aload_n C (i := 0) dk_R_48 rfl rfl ?_
  refine g_new C (K := cn_P) (F := cf_P) (n := 11) (ci := 4) (fs := [.null, .null, .null, .null, .int 0, .null, .null, .null, .null, .int 0, .int 0]) ct_P ty_P in_P kw_R_cl33 kw_in_P kc_P_n rfl df_P (Nat.le_of_ble_eq_true rfl) (Nat.le_of_ble_eq_true rfl) dk_R_49 (fun q49 => ?_)
  refine g_ws (ws2 := [(b, .inr (0, [.ref q5, .ref q16, .null, .ref q27, .ref q38])), (q5, .inr (1, [.ref (u9.getD 0 0), .ref (u9.getD 1 0), .ref (u9.getD 2 0), .int 0])), ((u9.getD 0 0), kI E 20), ((u9.getD 1 0), kI E 20), ((u9.getD 2 0), kI E 20), (q16, .inr (2, [.ref (u20.getD 0 0), .int 0])), ((u20.getD 0 0), kI E 400), (q27, .inr (3, [.ref (u31.getD 0 0), .ref (u31.getD 1 0), .ref (u31.getD 2 0), .ref (u31.getD 3 0), .ref (u31.getD 4 0), .ref (u31.getD 5 0), .ref (u31.getD 6 0), .ref (u31.getD 7 0), .ref (u31.getD 8 0), .ref (u31.getD 9 0), .int 0])), ((u31.getD 0 0), kI E 100), ((u31.getD 1 0), kI E 100), ((u31.getD 2 0), kI E 100), ((u31.getD 3 0), kI E 100), ((u31.getD 4 0), kI E 100), ((u31.getD 5 0), kI E 100), ((u31.getD 6 0), kI E 100), ((u31.getD 7 0), kI E 100), ((u31.getD 8 0), kI E 100), ((u31.getD 9 0), kL E 100), (q38, .inr (3, [.ref (u42.getD 0 0), .ref (u42.getD 1 0), .ref (u42.getD 2 0), .ref (u42.getD 3 0), .ref (u42.getD 4 0), .ref (u42.getD 5 0), .ref (u42.getD 6 0), .ref (u42.getD 7 0), .ref (u42.getD 8 0), .ref (u42.getD 9 0), .int 0])), ((u42.getD 0 0), kI E 100), ((u42.getD 1 0), kI E 100), ((u42.getD 2 0), kI E 100), ((u42.getD 3 0), kI E 100), ((u42.getD 4 0), kI E 100), ((u42.getD 5 0), kI E 100), ((u42.getD 6 0), kI E 100), ((u42.getD 7 0), kI E 100), ((u42.getD 8 0), kI E 100), ((u42.getD 9 0), kL E 100), (q49, .inr (4, [.null, .null, .null, .null, .int 0, .null, .null, .null, .null, .int 0, .int 0]))]) rfl ?_
  refine g_dup C dk_R_52 rfl ?_
  refine g_aload_n C (i := 0) dk_R_53 rfl rfl ?_
  refine g_get C (F := cf_R) (n := 5) (j := 0) (ci := 0) in_R 0 rfl rfl (by decide) kw_R_f12 rfl rfl dk_R_54 ?_
  refine g_aload_n C (i := 0) dk_R_57 rfl rfl ?_
  refine g_get C (F := cf_R) (n := 5) (j := 1) (ci := 0) in_R 0 rfl rfl (by decide) kw_R_f19 rfl rfl dk_R_58 ?_
  refine g_aload_n C (i := 0) dk_R_61 rfl rfl ?_
  refine g_get C (F := cf_R) (n := 5) (j := 4) (ci := 0) in_R 0 rfl rfl (by decide) kw_R_f30 rfl rfl dk_R_62 ?_
  refine g_initN ⟨xN_ok, hGr⟩ zT_good C (i0 := 29) (wr := [(b, .inr (0, [.ref q5, .ref q16, .null, .ref q27, .ref q38])), (q5, .inr (1, [.ref (u9.getD 0 0), .ref (u9.getD 1 0), .ref (u9.getD 2 0), .int 0])), ((u9.getD 0 0), kI E 20), ((u9.getD 1 0), kI E 20), ((u9.getD 2 0), kI E 20), (q16, .inr (2, [.ref (u20.getD 0 0), .int 0])), ((u20.getD 0 0), kI E 400), (q27, .inr (3, [.ref (u31.getD 0 0), .ref (u31.getD 1 0), .ref (u31.getD 2 0), .ref (u31.getD 3 0), .ref (u31.getD 4 0), .ref (u31.getD 5 0), .ref (u31.getD 6 0), .ref (u31.getD 7 0), .ref (u31.getD 8 0), .ref (u31.getD 9 0), .int 0])), ((u31.getD 0 0), kI E 100), ((u31.getD 1 0), kI E 100), ((u31.getD 2 0), kI E 100), ((u31.getD 3 0), kI E 100), ((u31.getD 4 0), kI E 100), ((u31.getD 5 0), kI E 100), ((u31.getD 6 0), kI E 100), ((u31.getD 7 0), kI E 100), ((u31.getD 8 0), kI E 100), ((u31.getD 9 0), kL E 100), (q38, .inr (3, [.ref (u42.getD 0 0), .ref (u42.getD 1 0), .ref (u42.getD 2 0), .ref (u42.getD 3 0), .ref (u42.getD 4 0), .ref (u42.getD 5 0), .ref (u42.getD 6 0), .ref (u42.getD 7 0), .ref (u42.getD 8 0), .ref (u42.getD 9 0), .int 0])), ((u42.getD 0 0), kI E 100), ((u42.getD 1 0), kI E 100), ((u42.getD 2 0), kI E 100), ((u42.getD 3 0), kI E 100), ((u42.getD 4 0), kI E 100), ((u42.getD 5 0), kI E 100), ((u42.getD 6 0), kI E 100), ((u42.getD 7 0), kI E 100), ((u42.getD 8 0), kI E 100), ((u42.getD 9 0), kL E 100)]) (isR := [0, 1, 2, 3, 4, 5, 6, 7, 8, 9, 10, 11, 12, 13, 14, 15, 16, 17, 18, 19, 20, 21, 22, 23, 24, 25, 26, 27, 28]) (k_P hGr q49 q5 q16 q38) kc_P_i kc_P_n kc_P_c (List.mem_of_getElem? (i := 8) rfl) rfl (Nat.le_of_ble_eq_true rfl) (Nat.le_of_ble_eq_true rfl) kc_P_p rfl rfl (Nat.le_of_ble_eq_true rfl) dk_R_65 rfl rfl rfl rfl (by decide) (Nat.le_of_ble_eq_true rfl) (Nat.le_of_ble_eq_true rfl) (fun u65 => ?_)
  refine g_ws (ws2 := [(b, .inr (0, [.ref q5, .ref q16, .null, .ref q27, .ref q38])), (q5, .inr (1, [.ref (u9.getD 0 0), .ref (u9.getD 1 0), .ref (u9.getD 2 0), .int 0])), ((u9.getD 0 0), kI E 20), ((u9.getD 1 0), kI E 20), ((u9.getD 2 0), kI E 20), (q16, .inr (2, [.ref (u20.getD 0 0), .int 0])), ((u20.getD 0 0), kI E 400), (q27, .inr (3, [.ref (u31.getD 0 0), .ref (u31.getD 1 0), .ref (u31.getD 2 0), .ref (u31.getD 3 0), .ref (u31.getD 4 0), .ref (u31.getD 5 0), .ref (u31.getD 6 0), .ref (u31.getD 7 0), .ref (u31.getD 8 0), .ref (u31.getD 9 0), .int 0])), ((u31.getD 0 0), kI E 100), ((u31.getD 1 0), kI E 100), ((u31.getD 2 0), kI E 100), ((u31.getD 3 0), kI E 100), ((u31.getD 4 0), kI E 100), ((u31.getD 5 0), kI E 100), ((u31.getD 6 0), kI E 100), ((u31.getD 7 0), kI E 100), ((u31.getD 8 0), kI E 100), ((u31.getD 9 0), kL E 100), (q38, .inr (3, [.ref (u42.getD 0 0), .ref (u42.getD 1 0), .ref (u42.getD 2 0), .ref (u42.getD 3 0), .ref (u42.getD 4 0), .ref (u42.getD 5 0), .ref (u42.getD 6 0), .ref (u42.getD 7 0), .ref (u42.getD 8 0), .ref (u42.getD 9 0), .int 0])), ((u42.getD 0 0), kI E 100), ((u42.getD 1 0), kI E 100), ((u42.getD 2 0), kI E 100), ((u42.getD 3 0), kI E 100), ((u42.getD 4 0), kI E 100), ((u42.getD 5 0), kI E 100), ((u42.getD 6 0), kI E 100), ((u42.getD 7 0), kI E 100), ((u42.getD 8 0), kI E 100), ((u42.getD 9 0), kL E 100), (q49, .inr (4, [.ref q5, .ref (u65.getD 8 0), .ref (u65.getD 0 0), .ref (u65.getD 4 0), .int 0, .ref (u65.getD 5 0), .ref (u65.getD 6 0), .ref (u65.getD 7 0), .ref q38, .int 3, .int 0])), ((u65.getD 0 0), .inr (6, [.ref (u65.getD 1 0), .ref (u65.getD 2 0), .ref (u65.getD 3 0), .int 0, .int 0])), ((u65.getD 1 0), kI E 197), ((u65.getD 2 0), kI E 197), ((u65.getD 3 0), kI E 197), ((u65.getD 4 0), kI E 100), ((u65.getD 5 0), .inr (7, [.long 0, .long 0])), ((u65.getD 6 0), .inr (7, [.long 0, .long 0])), ((u65.getD 7 0), .inr (7, [.long 0, .long 0])), ((u65.getD 8 0), .inr (5, [.ref q16, .int 0, .int 1, .int 0, .int 0]))]) rfl ?_
  refine g_putF C (F := cf_R) (n := 5) (j := 2) (ci := 0) (ty := .object "RangeReckoner$Parser") (v := .ref q49) hnm ct_R ty_R nm_R in_R 0 rfl rfl (by decide) kw_R_f38 rfl rfl (by decide +kernel) rfl rfl (Nat.le_of_ble_eq_true rfl) dk_R_68 ?_
  refine g_ws (ws2 := [(b, .inr (0, [.ref q5, .ref q16, .ref q49, .ref q27, .ref q38])), (q5, .inr (1, [.ref (u9.getD 0 0), .ref (u9.getD 1 0), .ref (u9.getD 2 0), .int 0])), ((u9.getD 0 0), kI E 20), ((u9.getD 1 0), kI E 20), ((u9.getD 2 0), kI E 20), (q16, .inr (2, [.ref (u20.getD 0 0), .int 0])), ((u20.getD 0 0), kI E 400), (q27, .inr (3, [.ref (u31.getD 0 0), .ref (u31.getD 1 0), .ref (u31.getD 2 0), .ref (u31.getD 3 0), .ref (u31.getD 4 0), .ref (u31.getD 5 0), .ref (u31.getD 6 0), .ref (u31.getD 7 0), .ref (u31.getD 8 0), .ref (u31.getD 9 0), .int 0])), ((u31.getD 0 0), kI E 100), ((u31.getD 1 0), kI E 100), ((u31.getD 2 0), kI E 100), ((u31.getD 3 0), kI E 100), ((u31.getD 4 0), kI E 100), ((u31.getD 5 0), kI E 100), ((u31.getD 6 0), kI E 100), ((u31.getD 7 0), kI E 100), ((u31.getD 8 0), kI E 100), ((u31.getD 9 0), kL E 100), (q38, .inr (3, [.ref (u42.getD 0 0), .ref (u42.getD 1 0), .ref (u42.getD 2 0), .ref (u42.getD 3 0), .ref (u42.getD 4 0), .ref (u42.getD 5 0), .ref (u42.getD 6 0), .ref (u42.getD 7 0), .ref (u42.getD 8 0), .ref (u42.getD 9 0), .int 0])), ((u42.getD 0 0), kI E 100), ((u42.getD 1 0), kI E 100), ((u42.getD 2 0), kI E 100), ((u42.getD 3 0), kI E 100), ((u42.getD 4 0), kI E 100), ((u42.getD 5 0), kI E 100), ((u42.getD 6 0), kI E 100), ((u42.getD 7 0), kI E 100), ((u42.getD 8 0), kI E 100), ((u42.getD 9 0), kL E 100), (q49, .inr (4, [.ref q5, .ref (u65.getD 8 0), .ref (u65.getD 0 0), .ref (u65.getD 4 0), .int 0, .ref (u65.getD 5 0), .ref (u65.getD 6 0), .ref (u65.getD 7 0), .ref q38, .int 3, .int 0])), ((u65.getD 0 0), .inr (6, [.ref (u65.getD 1 0), .ref (u65.getD 2 0), .ref (u65.getD 3 0), .int 0, .int 0])), ((u65.getD 1 0), kI E 197), ((u65.getD 2 0), kI E 197), ((u65.getD 3 0), kI E 197), ((u65.getD 4 0), kI E 100), ((u65.getD 5 0), .inr (7, [.long 0, .long 0])), ((u65.getD 6 0), .inr (7, [.long 0, .long 0])), ((u65.getD 7 0), .inr (7, [.long 0, .long 0])), ((u65.getD 8 0), .inr (5, [.ref q16, .int 0, .int 1, .int 0, .int 0]))]) rfl ?_
  refine g_perm (ws2 := [(b, .inr (0, [.ref q5, .ref q16, .ref q49, .ref q27, .ref q38])), (q5, .inr (1, [.ref (u9.getD 0 0), .ref (u9.getD 1 0), .ref (u9.getD 2 0), .int 0])), ((u9.getD 0 0), kI E 20), ((u9.getD 1 0), kI E 20), ((u9.getD 2 0), kI E 20), (q16, .inr (2, [.ref (u20.getD 0 0), .int 0])), ((u20.getD 0 0), kI E 400), (q27, .inr (3, [.ref (u31.getD 0 0), .ref (u31.getD 1 0), .ref (u31.getD 2 0), .ref (u31.getD 3 0), .ref (u31.getD 4 0), .ref (u31.getD 5 0), .ref (u31.getD 6 0), .ref (u31.getD 7 0), .ref (u31.getD 8 0), .ref (u31.getD 9 0), .int 0])), ((u31.getD 0 0), kI E 100), ((u31.getD 1 0), kI E 100), ((u31.getD 2 0), kI E 100), ((u31.getD 3 0), kI E 100), ((u31.getD 4 0), kI E 100), ((u31.getD 5 0), kI E 100), ((u31.getD 6 0), kI E 100), ((u31.getD 7 0), kI E 100), ((u31.getD 8 0), kI E 100), ((u31.getD 9 0), kL E 100), (q38, .inr (3, [.ref (u42.getD 0 0), .ref (u42.getD 1 0), .ref (u42.getD 2 0), .ref (u42.getD 3 0), .ref (u42.getD 4 0), .ref (u42.getD 5 0), .ref (u42.getD 6 0), .ref (u42.getD 7 0), .ref (u42.getD 8 0), .ref (u42.getD 9 0), .int 0])), ((u42.getD 0 0), kI E 100), ((u42.getD 1 0), kI E 100), ((u42.getD 2 0), kI E 100), ((u42.getD 3 0), kI E 100), ((u42.getD 4 0), kI E 100), ((u42.getD 5 0), kI E 100), ((u42.getD 6 0), kI E 100), ((u42.getD 7 0), kI E 100), ((u42.getD 8 0), kI E 100), ((u42.getD 9 0), kL E 100), (q49, .inr (4, [.ref q5, .ref (u65.getD 8 0), .ref (u65.getD 0 0), .ref (u65.getD 4 0), .int 0, .ref (u65.getD 5 0), .ref (u65.getD 6 0), .ref (u65.getD 7 0), .ref q38, .int 3, .int 0])), ((u65.getD 8 0), .inr (5, [.ref q16, .int 0, .int 1, .int 0, .int 0])), ((u65.getD 0 0), .inr (6, [.ref (u65.getD 1 0), .ref (u65.getD 2 0), .ref (u65.getD 3 0), .int 0, .int 0])), ((u65.getD 1 0), kI E 197), ((u65.getD 2 0), kI E 197), ((u65.getD 3 0), kI E 197), ((u65.getD 4 0), kI E 100), ((u65.getD 5 0), .inr (7, [.long 0, .long 0])), ((u65.getD 6 0), .inr (7, [.long 0, .long 0])), ((u65.getD 7 0), .inr (7, [.long 0, .long 0]))]) [0, 1, 2, 3, 4, 5, 6, 7, 8, 9, 10, 11, 12, 13, 14, 15, 16, 17, 18, 19, 20, 21, 22, 23, 24, 25, 26, 27, 28, 29, 38, 30, 31, 32, 33, 34, 35, 36, 37] rfl (by decide) rfl ?_
  exact g_vret C hr dk_R_71 [q5, (u9.getD 0 0), (u9.getD 1 0), (u9.getD 2 0), q16, (u20.getD 0 0), q27, (u31.getD 0 0), (u31.getD 1 0), (u31.getD 2 0), (u31.getD 3 0), (u31.getD 4 0), (u31.getD 5 0), (u31.getD 6 0), (u31.getD 7 0), (u31.getD 8 0), (u31.getD 9 0), q38, (u42.getD 0 0), (u42.getD 1 0), (u42.getD 2 0), (u42.getD 3 0), (u42.getD 4 0), (u42.getD 5 0), (u42.getD 6 0), (u42.getD 7 0), (u42.getD 8 0), (u42.getD 9 0), q49, (u65.getD 8 0), (u65.getD 0 0), (u65.getD 1 0), (u65.getD 2 0), (u65.getD 3 0), (u65.getD 4 0), (u65.getD 5 0), (u65.getD 6 0), (u65.getD 7 0)] rfl (Nat.le_of_ble_eq_true rfl) (Nat.le_of_ble_eq_true rfl)
def y_M_init : MethodName := ⟨cn_M, "<init>", "()V"⟩
theorem kc_M_c : Cond.code y_M_init prog_10_method_1_code 1 none ∈ zT := zt_m3 239 rfl rfl
theorem kc_M_i : Cond.instanceMethod y_M_init ∈ zT := zt_m3 238 rfl rfl
theorem kc_M_n : Cond.initialized y_M_init.cls ∈ zT := zt_m1 9 rfl rfl
theorem kc_M_p : y_M_init.cls ≠ "java/lang/invoke/MethodHandle" ∧ y_M_init.cls ≠ "java/lang/invoke/VarHandle" ∧ (parseMethodDescriptor y_M_init.desc).map (fun d => d.parameters.length) = some 0 := by decide +kernel
theorem dk_M_0 : decode prog_10_method_1_code 0 = .ok (.aload_n 0, 1) := by decide +kernel
theorem dk_M_1 : decode prog_10_method_1_code 1 = .ok (.invokespecial 1, 3) := by decide +kernel
theorem kw_M_ob : Cond.methodLink cn_M 1 Lib.objectInit ∈ zT := zt_m4 0 rfl rfl
theorem dk_M_4 : decode prog_10_method_1_code 4 = .ok (.aload_n 0, 1) := by decide +kernel
theorem dk_M_5 : decode prog_10_method_1_code 5 = .ok (.bipush (20), 2) := by decide +kernel
theorem dk_M_7 : decode prog_10_method_1_code 7 = .ok (.newarray .int, 2) := by decide +kernel
theorem kw_M_f7 : Cond.fieldLink cn_M 7 cn_M "low" "[I" ∈ zT := zt_m4 3 rfl rfl
theorem dk_M_9 : decode prog_10_method_1_code 9 = .ok (.putfield 7, 3) := by decide +kernel
theorem dk_M_12 : decode prog_10_method_1_code 12 = .ok (.aload_n 0, 1) := by decide +kernel
theorem dk_M_13 : decode prog_10_method_1_code 13 = .ok (.bipush (20), 2) := by decide +kernel
theorem dk_M_15 : decode prog_10_method_1_code 15 = .ok (.newarray .int, 2) := by decide +kernel
theorem kw_M_f13 : Cond.fieldLink cn_M 13 cn_M "high" "[I" ∈ zT := zt_m4 4 rfl rfl
theorem dk_M_17 : decode prog_10_method_1_code 17 = .ok (.putfield 13, 3) := by decide +kernel
theorem dk_M_20 : decode prog_10_method_1_code 20 = .ok (.aload_n 0, 1) := by decide +kernel
theorem dk_M_21 : decode prog_10_method_1_code 21 = .ok (.bipush (20), 2) := by decide +kernel
theorem dk_M_23 : decode prog_10_method_1_code 23 = .ok (.newarray .int, 2) := by decide +kernel
theorem kw_M_f16 : Cond.fieldLink cn_M 16 cn_M "given" "[I" ∈ zT := zt_m4 5 rfl rfl
theorem dk_M_25 : decode prog_10_method_1_code 25 = .ok (.putfield 16, 3) := by decide +kernel
theorem dk_M_28 : decode prog_10_method_1_code 28 = .ok (.aload_n 0, 1) := by decide +kernel
theorem dk_M_29 : decode prog_10_method_1_code 29 = .ok (.sipush (400), 3) := by decide +kernel
theorem dk_M_32 : decode prog_10_method_1_code 32 = .ok (.newarray .int, 2) := by decide +kernel
theorem kw_M_f19 : Cond.fieldLink cn_M 19 cn_M "tape" "[I" ∈ zT := zt_m4 6 rfl rfl
theorem dk_M_34 : decode prog_10_method_1_code 34 = .ok (.putfield 19, 3) := by decide +kernel
theorem dk_M_37 : decode prog_10_method_1_code 37 = .ok (.aload_n 0, 1) := by decide +kernel
theorem dk_M_38 : decode prog_10_method_1_code 38 = .ok (.sipush (200), 3) := by decide +kernel
theorem dk_M_41 : decode prog_10_method_1_code 41 = .ok (.newarray .int, 2) := by decide +kernel
theorem kw_M_f22 : Cond.fieldLink cn_M 22 cn_M "ptOp" "[I" ∈ zT := zt_m4 13 rfl rfl
theorem dk_M_43 : decode prog_10_method_1_code 43 = .ok (.putfield 22, 3) := by decide +kernel
theorem dk_M_46 : decode prog_10_method_1_code 46 = .ok (.aload_n 0, 1) := by decide +kernel
theorem dk_M_47 : decode prog_10_method_1_code 47 = .ok (.sipush (200), 3) := by decide +kernel
theorem dk_M_50 : decode prog_10_method_1_code 50 = .ok (.newarray .int, 2) := by decide +kernel
theorem kw_M_f25 : Cond.fieldLink cn_M 25 cn_M "ptPlace" "[I" ∈ zT := zt_m4 14 rfl rfl
theorem dk_M_52 : decode prog_10_method_1_code 52 = .ok (.putfield 25, 3) := by decide +kernel
theorem dk_M_55 : decode prog_10_method_1_code 55 = .ok (.aload_n 0, 1) := by decide +kernel
theorem dk_M_56 : decode prog_10_method_1_code 56 = .ok (.sipush (200), 3) := by decide +kernel
theorem dk_M_59 : decode prog_10_method_1_code 59 = .ok (.newarray .int, 2) := by decide +kernel
theorem kw_M_f28 : Cond.fieldLink cn_M 28 cn_M "ptKind" "[I" ∈ zT := zt_m4 15 rfl rfl
theorem dk_M_61 : decode prog_10_method_1_code 61 = .ok (.putfield 28, 3) := by decide +kernel
theorem dk_M_64 : decode prog_10_method_1_code 64 = .ok (.aload_n 0, 1) := by decide +kernel
theorem dk_M_65 : decode prog_10_method_1_code 65 = .ok (.sipush (200), 3) := by decide +kernel
theorem dk_M_68 : decode prog_10_method_1_code 68 = .ok (.newarray .long, 2) := by decide +kernel
theorem kw_M_f31 : Cond.fieldLink cn_M 31 cn_M "ptLow" "[J" ∈ zT := zt_m4 16 rfl rfl
theorem dk_M_70 : decode prog_10_method_1_code 70 = .ok (.putfield 31, 3) := by decide +kernel
theorem dk_M_73 : decode prog_10_method_1_code 73 = .ok (.aload_n 0, 1) := by decide +kernel
theorem dk_M_74 : decode prog_10_method_1_code 74 = .ok (.sipush (200), 3) := by decide +kernel
theorem dk_M_77 : decode prog_10_method_1_code 77 = .ok (.newarray .long, 2) := by decide +kernel
theorem kw_M_f35 : Cond.fieldLink cn_M 35 cn_M "ptHigh" "[J" ∈ zT := zt_m4 17 rfl rfl
theorem dk_M_79 : decode prog_10_method_1_code 79 = .ok (.putfield 35, 3) := by decide +kernel
theorem dk_M_82 : decode prog_10_method_1_code 82 = .ok (.aload_n 0, 1) := by decide +kernel
theorem dk_M_83 : decode prog_10_method_1_code 83 = .ok (.sipush (200), 3) := by decide +kernel
theorem dk_M_86 : decode prog_10_method_1_code 86 = .ok (.newarray .int, 2) := by decide +kernel
theorem kw_M_f38 : Cond.fieldLink cn_M 38 cn_M "ptA" "[I" ∈ zT := zt_m4 18 rfl rfl
theorem dk_M_88 : decode prog_10_method_1_code 88 = .ok (.putfield 38, 3) := by decide +kernel
theorem dk_M_91 : decode prog_10_method_1_code 91 = .ok (.aload_n 0, 1) := by decide +kernel
theorem dk_M_92 : decode prog_10_method_1_code 92 = .ok (.sipush (200), 3) := by decide +kernel
theorem dk_M_95 : decode prog_10_method_1_code 95 = .ok (.newarray .int, 2) := by decide +kernel
theorem kw_M_f41 : Cond.fieldLink cn_M 41 cn_M "ptB" "[I" ∈ zT := zt_m4 19 rfl rfl
theorem dk_M_97 : decode prog_10_method_1_code 97 = .ok (.putfield 41, 3) := by decide +kernel
theorem dk_M_100 : decode prog_10_method_1_code 100 = .ok (.aload_n 0, 1) := by decide +kernel
theorem dk_M_101 : decode prog_10_method_1_code 101 = .ok (.sipush (200), 3) := by decide +kernel
theorem dk_M_104 : decode prog_10_method_1_code 104 = .ok (.newarray .int, 2) := by decide +kernel
theorem kw_M_f44 : Cond.fieldLink cn_M 44 cn_M "ptC" "[I" ∈ zT := zt_m4 20 rfl rfl
theorem dk_M_106 : decode prog_10_method_1_code 106 = .ok (.putfield 44, 3) := by decide +kernel
theorem dk_M_109 : decode prog_10_method_1_code 109 = .ok (.aload_n 0, 1) := by decide +kernel
theorem dk_M_110 : decode prog_10_method_1_code 110 = .ok (.sipush (200), 3) := by decide +kernel
theorem dk_M_113 : decode prog_10_method_1_code 113 = .ok (.newarray .int, 2) := by decide +kernel
theorem kw_M_f47 : Cond.fieldLink cn_M 47 cn_M "ptDeep" "[I" ∈ zT := zt_m4 21 rfl rfl
theorem dk_M_115 : decode prog_10_method_1_code 115 = .ok (.putfield 47, 3) := by decide +kernel
theorem dk_M_118 : decode prog_10_method_1_code 118 = .ok (.aload_n 0, 1) := by decide +kernel
theorem dk_M_119 : decode prog_10_method_1_code 119 = .ok (.sipush (200), 3) := by decide +kernel
theorem dk_M_122 : decode prog_10_method_1_code 122 = .ok (.newarray .long, 2) := by decide +kernel
theorem kw_M_f50 : Cond.fieldLink cn_M 50 cn_M "ptNumber" "[J" ∈ zT := zt_m4 22 rfl rfl
theorem dk_M_124 : decode prog_10_method_1_code 124 = .ok (.putfield 50, 3) := by decide +kernel
theorem dk_M_127 : decode prog_10_method_1_code 127 = .ok (.aload_n 0, 1) := by decide +kernel
theorem dk_M_128 : decode prog_10_method_1_code 128 = .ok (.sipush (300), 3) := by decide +kernel
theorem dk_M_131 : decode prog_10_method_1_code 131 = .ok (.newarray .int, 2) := by decide +kernel
theorem kw_M_f53 : Cond.fieldLink cn_M 53 cn_M "wtOp" "[I" ∈ zT := zt_m4 26 rfl rfl
theorem dk_M_133 : decode prog_10_method_1_code 133 = .ok (.putfield 53, 3) := by decide +kernel
theorem dk_M_136 : decode prog_10_method_1_code 136 = .ok (.aload_n 0, 1) := by decide +kernel
theorem dk_M_137 : decode prog_10_method_1_code 137 = .ok (.sipush (300), 3) := by decide +kernel
theorem dk_M_140 : decode prog_10_method_1_code 140 = .ok (.newarray .int, 2) := by decide +kernel
theorem kw_M_f56 : Cond.fieldLink cn_M 56 cn_M "wtPlace" "[I" ∈ zT := zt_m4 27 rfl rfl
theorem dk_M_142 : decode prog_10_method_1_code 142 = .ok (.putfield 56, 3) := by decide +kernel
theorem dk_M_145 : decode prog_10_method_1_code 145 = .ok (.aload_n 0, 1) := by decide +kernel
theorem dk_M_146 : decode prog_10_method_1_code 146 = .ok (.sipush (300), 3) := by decide +kernel
theorem dk_M_149 : decode prog_10_method_1_code 149 = .ok (.newarray .int, 2) := by decide +kernel
theorem kw_M_f59 : Cond.fieldLink cn_M 59 cn_M "wtRead" "[I" ∈ zT := zt_m4 28 rfl rfl
theorem dk_M_151 : decode prog_10_method_1_code 151 = .ok (.putfield 59, 3) := by decide +kernel
theorem dk_M_154 : decode prog_10_method_1_code 154 = .ok (.aload_n 0, 1) := by decide +kernel
theorem dk_M_155 : decode prog_10_method_1_code 155 = .ok (.sipush (300), 3) := by decide +kernel
theorem dk_M_158 : decode prog_10_method_1_code 158 = .ok (.newarray .int, 2) := by decide +kernel
theorem kw_M_f62 : Cond.fieldLink cn_M 62 cn_M "pile" "[I" ∈ zT := zt_m4 30 rfl rfl
theorem dk_M_160 : decode prog_10_method_1_code 160 = .ok (.putfield 62, 3) := by decide +kernel
theorem dk_M_163 : decode prog_10_method_1_code 163 = .ok (.aload_n 0, 1) := by decide +kernel
theorem dk_M_164 : decode prog_10_method_1_code 164 = .ok (.bipush (100), 2) := by decide +kernel
theorem dk_M_166 : decode prog_10_method_1_code 166 = .ok (.newarray .long, 2) := by decide +kernel
theorem kw_M_f65 : Cond.fieldLink cn_M 65 cn_M "worth" "[J" ∈ zT := zt_m4 35 rfl rfl
theorem dk_M_168 : decode prog_10_method_1_code 168 = .ok (.putfield 65, 3) := by decide +kernel
theorem dk_M_171 : decode prog_10_method_1_code 171 = .ok (.return_, 1) := by decide +kernel
def ou_M (E : zE) (b : Nat) (u : List Nat) : va_W := [(b, .inr (8, [.int 0, .int 0, .ref (u.getD 0 0), .ref (u.getD 1 0), .ref (u.getD 2 0), .ref (u.getD 3 0), .int 0, .int 0, .int 0, .int 0, .int 0, .long 0, .ref (u.getD 4 0), .ref (u.getD 5 0), .ref (u.getD 6 0), .ref (u.getD 7 0), .ref (u.getD 8 0), .ref (u.getD 9 0), .ref (u.getD 10 0), .ref (u.getD 11 0), .ref (u.getD 12 0), .ref (u.getD 13 0), .int 0, .int 0, .int 0, .ref (u.getD 14 0), .ref (u.getD 15 0), .ref (u.getD 16 0), .int 0, .ref (u.getD 17 0), .int 0, .int 0, .long 0, .long 0, .ref (u.getD 18 0)])), ((u.getD 0 0), kI E 20), ((u.getD 1 0), kI E 20), ((u.getD 2 0), kI E 20), ((u.getD 3 0), kI E 400), ((u.getD 4 0), kI E 200), ((u.getD 5 0), kI E 200), ((u.getD 6 0), kI E 200), ((u.getD 7 0), kL E 200), ((u.getD 8 0), kL E 200), ((u.getD 9 0), kI E 200), ((u.getD 10 0), kI E 200), ((u.getD 11 0), kI E 200), ((u.getD 12 0), kI E 200), ((u.getD 13 0), kL E 200), ((u.getD 14 0), kI E 300), ((u.getD 15 0), kI E 300), ((u.getD 16 0), kI E 300), ((u.getD 17 0), kI E 300), ((u.getD 18 0), kL E 100)]
set_option maxRecDepth 100000 in
set_option maxHeartbeats 4000000 in
theorem k_M {l : Launch} {E : zE} {G : (Nat → Prop) → State → Prop} (hGr : zGr G) (b : Nat) : Ck l E xcl xN zT G 1 30 19 3760 y_M_init prog_10_method_1_code 1 8 [.int 0, .int 0, .null, .null, .null, .null, .int 0, .int 0, .int 0, .int 0, .int 0, .long 0, .null, .null, .null, .null, .null, .null, .null, .null, .null, .null, .int 0, .int 0, .int 0, .null, .null, .null, .int 0, .null, .int 0, .int 0, .long 0, .long 0, .null] b [] (ou_M E b) := by
  refine Ck.of (by decide) (Nat.le_of_ble_eq_true rfl) xX ?_
  intro p e s m below meth c A C hr hnm
  refine g_lv (lv2 := [some (.ref b)]) rfl ?_
  refine g_aload_n C (i := 0) dk_M_0 rfl rfl ?_
  refine g_objInit C kw_M_ob kw_oi kw_oc dk_M_1 (Nat.le_of_ble_eq_true rfl) (Nat.le_of_ble_eq_true rfl) (Nat.le_of_ble_eq_true rfl) ?_
  refine g_aload_n C (i := 0) dk_M_4 rfl rfl ?_
  refine g_bipush C (v := 20) dk_M_5 (by decide) ?_
  refine g_newI C (n' := 20) kw_aI (by decide) (by decide) (by decide) (Nat.le_of_ble_eq_true rfl) (Nat.le_of_ble_eq_true rfl) dk_M_7 (fun q7 => ?_)
  refine g_ws (ws2 := [(b, .inr (8, [.int 0, .int 0, .null, .null, .null, .null, .int 0, .int 0, .int 0, .int 0, .int 0, .long 0, .null, .null, .null, .null, .null, .null, .null, .null, .null, .null, .int 0, .int 0, .int 0, .null, .null, .null, .int 0, .null, .int 0, .int 0, .long 0, .long 0, .null])), (q7, kI E 20)]) rfl ?_
  refine g_putF C (F := cf_M) (n := 35) (j := 2) (ci := 8) (ty := .array .int) (v := .ref q7) hnm ct_M ty_M nm_M in_M 0 rfl rfl (by decide) kw_M_f7 rfl rfl (by decide +kernel) rfl rfl (Nat.le_of_ble_eq_true rfl) dk_M_9 ?_
  refine g_ws (ws2 := [(b, .inr (8, [.int 0, .int 0, .ref q7, .null, .null, .null, .int 0, .int 0, .int 0, .int 0, .int 0, .long 0, .null, .null, .null, .null, .null, .null, .null, .null, .null, .null, .int 0, .int 0, .int 0, .null, .null, .null, .int 0, .null, .int 0, .int 0, .long 0, .long 0, .null])), (q7, kI E 20)]) rfl ?_
  refine g_aload_n C (i := 0) dk_M_12 rfl rfl ?_
  refine g_bipush C (v := 20) dk_M_13 (by decide) ?_
  refine g_newI C (n' := 20) kw_aI (by decide) (by decide) (by decide) (Nat.le_of_ble_eq_true rfl) (Nat.le_of_ble_eq_true rfl) dk_M_15 (fun q15 => ?_)
  refine g_ws (ws2 := [(b, .inr (8, [.int 0, .int 0, .ref q7, .null, .null, .null, .int 0, .int 0, .int 0, .int 0, .int 0, .long 0, .null, .null, .null, .null, .null, .null, .null, .null, .null, .null, .int 0, .int 0, .int 0, .null, .null, .null, .int 0, .null, .int 0, .int 0, .long 0, .long 0, .null])), (q7, kI E 20), (q15, kI E 20)]) rfl ?_
  refine g_putF C (F := cf_M) (n := 35) (j := 3) (ci := 8) (ty := .array .int) (v := .ref q15) hnm ct_M ty_M nm_M in_M 0 rfl rfl (by decide) kw_M_f13 rfl rfl (by decide +kernel) rfl rfl (Nat.le_of_ble_eq_true rfl) dk_M_17 ?_
  refine g_ws (ws2 := [(b, .inr (8, [.int 0, .int 0, .ref q7, .ref q15, .null, .null, .int 0, .int 0, .int 0, .int 0, .int 0, .long 0, .null, .null, .null, .null, .null, .null, .null, .null, .null, .null, .int 0, .int 0, .int 0, .null, .null, .null, .int 0, .null, .int 0, .int 0, .long 0, .long 0, .null])), (q7, kI E 20), (q15, kI E 20)]) rfl ?_
  refine g_aload_n C (i := 0) dk_M_20 rfl rfl ?_
  refine g_bipush C (v := 20) dk_M_21 (by decide) ?_
  refine g_newI C (n' := 20) kw_aI (by decide) (by decide) (by decide) (Nat.le_of_ble_eq_true rfl) (Nat.le_of_ble_eq_true rfl) dk_M_23 (fun q23 => ?_)
  refine g_ws (ws2 := [(b, .inr (8, [.int 0, .int 0, .ref q7, .ref q15, .null, .null, .int 0, .int 0, .int 0, .int 0, .int 0, .long 0, .null, .null, .null, .null, .null, .null, .null, .null, .null, .null, .int 0, .int 0, .int 0, .null, .null, .null, .int 0, .null, .int 0, .int 0, .long 0, .long 0, .null])), (q7, kI E 20), (q15, kI E 20), (q23, kI E 20)]) rfl ?_
  refine g_putF C (F := cf_M) (n := 35) (j := 4) (ci := 8) (ty := .array .int) (v := .ref q23) hnm ct_M ty_M nm_M in_M 0 rfl rfl (by decide) kw_M_f16 rfl rfl (by decide +kernel) rfl rfl (Nat.le_of_ble_eq_true rfl) dk_M_25 ?_
  refine g_ws (ws2 := [(b, .inr (8, [.int 0, .int 0, .ref q7, .ref q15, .ref q23, .null, .int 0, .int 0, .int 0, .int 0, .int 0, .long 0, .null, .null, .null, .null, .null, .null, .null, .null, .null, .null, .int 0, .int 0, .int 0, .null, .null, .null, .int 0, .null, .int 0, .int 0, .long 0, .long 0, .null])), (q7, kI E 20), (q15, kI E 20), (q23, kI E 20)]) rfl ?_
  refine g_aload_n C (i := 0) dk_M_28 rfl rfl ?_
  refine g_sipush C (v := 400) dk_M_29 (by decide) ?_
  refine g_newI C (n' := 400) kw_aI (by decide) (by decide) (by decide) (Nat.le_of_ble_eq_true rfl) (Nat.le_of_ble_eq_true rfl) dk_M_32 (fun q32 => ?_)
  refine g_ws (ws2 := [(b, .inr (8, [.int 0, .int 0, .ref q7, .ref q15, .ref q23, .null, .int 0, .int 0, .int 0, .int 0, .int 0, .long 0, .null, .null, .null, .null, .null, .null, .null, .null, .null, .null, .int 0, .int 0, .int 0, .null, .null, .null, .int 0, .null, .int 0, .int 0, .long 0, .long 0, .null])), (q7, kI E 20), (q15, kI E 20), (q23, kI E 20), (q32, kI E 400)]) rfl ?_
  refine g_putF C (F := cf_M) (n := 35) (j := 5) (ci := 8) (ty := .array .int) (v := .ref q32) hnm ct_M ty_M nm_M in_M 0 rfl rfl (by decide) kw_M_f19 rfl rfl (by decide +kernel) rfl rfl (Nat.le_of_ble_eq_true rfl) dk_M_34 ?_
  refine g_ws (ws2 := [(b, .inr (8, [.int 0, .int 0, .ref q7, .ref q15, .ref q23, .ref q32, .int 0, .int 0, .int 0, .int 0, .int 0, .long 0, .null, .null, .null, .null, .null, .null, .null, .null, .null, .null, .int 0, .int 0, .int 0, .null, .null, .null, .int 0, .null, .int 0, .int 0, .long 0, .long 0, .null])), (q7, kI E 20), (q15, kI E 20), (q23, kI E 20), (q32, kI E 400)]) rfl ?_
  refine g_aload_n C (i := 0) dk_M_37 rfl rfl ?_
  refine g_sipush C (v := 200) dk_M_38 (by decide) ?_
  refine g_newI C (n' := 200) kw_aI (by decide) (by decide) (by decide) (Nat.le_of_ble_eq_true rfl) (Nat.le_of_ble_eq_true rfl) dk_M_41 (fun q41 => ?_)
  refine g_ws (ws2 := [(b, .inr (8, [.int 0, .int 0, .ref q7, .ref q15, .ref q23, .ref q32, .int 0, .int 0, .int 0, .int 0, .int 0, .long 0, .null, .null, .null, .null, .null, .null, .null, .null, .null, .null, .int 0, .int 0, .int 0, .null, .null, .null, .int 0, .null, .int 0, .int 0, .long 0, .long 0, .null])), (q7, kI E 20), (q15, kI E 20), (q23, kI E 20), (q32, kI E 400), (q41, kI E 200)]) rfl ?_
  refine g_putF C (F := cf_M) (n := 35) (j := 12) (ci := 8) (ty := .array .int) (v := .ref q41) hnm ct_M ty_M nm_M in_M 0 rfl rfl (by decide) kw_M_f22 rfl rfl (by decide +kernel) rfl rfl (Nat.le_of_ble_eq_true rfl) dk_M_43 ?_
  refine g_ws (ws2 := [(b, .inr (8, [.int 0, .int 0, .ref q7, .ref q15, .ref q23, .ref q32, .int 0, .int 0, .int 0, .int 0, .int 0, .long 0, .ref q41, .null, .null, .null, .null, .null, .null, .null, .null, .null, .int 0, .int 0, .int 0, .null, .null, .null, .int 0, .null, .int 0, .int 0, .long 0, .long 0, .null])), (q7, kI E 20), (q15, kI E 20), (q23, kI E 20), (q32, kI E 400), (q41, kI E 200)]) rfl ?_
  refine g_aload_n C (i := 0) dk_M_46 rfl rfl ?_
  refine g_sipush C (v := 200) dk_M_47 (by decide) ?_
  refine g_newI C (n' := 200) kw_aI (by decide) (by decide) (by decide) (Nat.le_of_ble_eq_true rfl) (Nat.le_of_ble_eq_true rfl) dk_M_50 (fun q50 => ?_)
  refine g_ws (ws2 := [(b, .inr (8, [.int 0, .int 0, .ref q7, .ref q15, .ref q23, .ref q32, .int 0, .int 0, .int 0, .int 0, .int 0, .long 0, .ref q41, .null, .null, .null, .null, .null, .null, .null, .null, .null, .int 0, .int 0, .int 0, .null, .null, .null, .int 0, .null, .int 0, .int 0, .long 0, .long 0, .null])), (q7, kI E 20), (q15, kI E 20), (q23, kI E 20), (q32, kI E 400), (q41, kI E 200), (q50, kI E 200)]) rfl ?_
  refine g_putF C (F := cf_M) (n := 35) (j := 13) (ci := 8) (ty := .array .int) (v := .ref q50) hnm ct_M ty_M nm_M in_M 0 rfl rfl (by decide) kw_M_f25 rfl rfl (by decide +kernel) rfl rfl (Nat.le_of_ble_eq_true rfl) dk_M_52 ?_
  refine g_ws (ws2 := [(b, .inr (8, [.int 0, .int 0, .ref q7, .ref q15, .ref q23, .ref q32, .int 0, .int 0, .int 0, .int 0, .int 0, .long 0, .ref q41, .ref q50, .null, .null, .null, .null, .null, .null, .null, .null, .int 0, .int 0, .int 0, .null, .null, .null, .int 0, .null, .int 0, .int 0, .long 0, .long 0, .null])), (q7, kI E 20), (q15, kI E 20), (q23, kI E 20), (q32, kI E 400), (q41, kI E 200), (q50, kI E 200)]) rfl ?_
  refine g_aload_n C (i := 0) dk_M_55 rfl rfl ?_
  refine g_sipush C (v := 200) dk_M_56 (by decide) ?_
  refine g_newI C (n' := 200) kw_aI (by decide) (by decide) (by decide) (Nat.le_of_ble_eq_true rfl) (Nat.le_of_ble_eq_true rfl) dk_M_59 (fun q59 => ?_)
  refine g_ws (ws2 := [(b, .inr (8, [.int 0, .int 0, .ref q7, .ref q15, .ref q23, .ref q32, .int 0, .int 0, .int 0, .int 0, .int 0, .long 0, .ref q41, .ref q50, .null, .null, .null, .null, .null, .null, .null, .null, .int 0, .int 0, .int 0, .null, .null, .null, .int 0, .null, .int 0, .int 0, .long 0, .long 0, .null])), (q7, kI E 20), (q15, kI E 20), (q23, kI E 20), (q32, kI E 400), (q41, kI E 200), (q50, kI E 200), (q59, kI E 200)]) rfl ?_
  refine g_putF C (F := cf_M) (n := 35) (j := 14) (ci := 8) (ty := .array .int) (v := .ref q59) hnm ct_M ty_M nm_M in_M 0 rfl rfl (by decide) kw_M_f28 rfl rfl (by decide +kernel) rfl rfl (Nat.le_of_ble_eq_true rfl) dk_M_61 ?_
  refine g_ws (ws2 := [(b, .inr (8, [.int 0, .int 0, .ref q7, .ref q15, .ref q23, .ref q32, .int 0, .int 0, .int 0, .int 0, .int 0, .long 0, .ref q41, .ref q50, .ref q59, .null, .null, .null, .null, .null, .null, .null, .int 0, .int 0, .int 0, .null, .null, .null, .int 0, .null, .int 0, .int 0, .long 0, .long 0, .null])), (q7, kI E 20), (q15, kI E 20), (q23, kI E 20), (q32, kI E 400), (q41, kI E 200), (q50, kI E 200), (q59, kI E 200)]) rfl ?_
  refine g_aload_n C (i := 0) dk_M_64 rfl rfl ?_
  refine g_sipush C (v := 200) dk_M_65 (by decide) ?_
  refine g_newL C (n' := 200) kw_aL (by decide) (by decide) (by decide) (Nat.le_of_ble_eq_true rfl) (Nat.le_of_ble_eq_true rfl) dk_M_68 (fun q68 => ?_)
  refine g_ws (ws2 := [(b, .inr (8, [.int 0, .int 0, .ref q7, .ref q15, .ref q23, .ref q32, .int 0, .int 0, .int 0, .int 0, .int 0, .long 0, .ref q41, .ref q50, .ref q59, .null, .null, .null, .null, .null, .null, .null, .int 0, .int 0, .int 0, .null, .null, .null, .int 0, .null, .int 0, .int 0, .long 0, .long 0, .null])), (q7, kI E 20), (q15, kI E 20), (q23, kI E 20), (q32, kI E 400), (q41, kI E 200), (q50, kI E 200), (q59, kI E 200), (q68, kL E 200)]) rfl ?_
  refine g_putF C (F := cf_M) (n := 35) (j := 15) (ci := 8) (ty := .array .long) (v := .ref q68) hnm ct_M ty_M nm_M in_M 0 rfl rfl (by decide) kw_M_f31 rfl rfl (by decide +kernel) rfl rfl (Nat.le_of_ble_eq_true rfl) dk_M_70 ?_
  refine g_ws (ws2 := [(b, .inr (8, [.int 0, .int 0, .ref q7, .ref q15, .ref q23, .ref q32, .int 0, .int 0, .int 0, .int 0, .int 0, .long 0, .ref q41, .ref q50, .ref q59, .ref q68, .null, .null, .null, .null, .null, .null, .int 0, .int 0, .int 0, .null, .null, .null, .int 0, .null, .int 0, .int 0, .long 0, .long 0, .null])), (q7, kI E 20), (q15, kI E 20), (q23, kI E 20), (q32, kI E 400), (q41, kI E 200), (q50, kI E 200), (q59, kI E 200), (q68, kL E 200)]) rfl ?_
  refine g_aload_n C (i := 0) dk_M_73 rfl rfl ?_
  refine g_sipush C (v := 200) dk_M_74 (by decide) ?_
  refine g_newL C (n' := 200) kw_aL (by decide) (by decide) (by decide) (Nat.le_of_ble_eq_true rfl) (Nat.le_of_ble_eq_true rfl) dk_M_77 (fun q77 => ?_)
  refine g_ws (ws2 := [(b, .inr (8, [.int 0, .int 0, .ref q7, .ref q15, .ref q23, .ref q32, .int 0, .int 0, .int 0, .int 0, .int 0, .long 0, .ref q41, .ref q50, .ref q59, .ref q68, .null, .null, .null, .null, .null, .null, .int 0, .int 0, .int 0, .null, .null, .null, .int 0, .null, .int 0, .int 0, .long 0, .long 0, .null])), (q7, kI E 20), (q15, kI E 20), (q23, kI E 20), (q32, kI E 400), (q41, kI E 200), (q50, kI E 200), (q59, kI E 200), (q68, kL E 200), (q77, kL E 200)]) rfl ?_
  refine g_putF C (F := cf_M) (n := 35) (j := 16) (ci := 8) (ty := .array .long) (v := .ref q77) hnm ct_M ty_M nm_M in_M 0 rfl rfl (by decide) kw_M_f35 rfl rfl (by decide +kernel) rfl rfl (Nat.le_of_ble_eq_true rfl) dk_M_79 ?_
  refine g_ws (ws2 := [(b, .inr (8, [.int 0, .int 0, .ref q7, .ref q15, .ref q23, .ref q32, .int 0, .int 0, .int 0, .int 0, .int 0, .long 0, .ref q41, .ref q50, .ref q59, .ref q68, .ref q77, .null, .null, .null, .null, .null, .int 0, .int 0, .int 0, .null, .null, .null, .int 0, .null, .int 0, .int 0, .long 0, .long 0, .null])), (q7, kI E 20), (q15, kI E 20), (q23, kI E 20), (q32, kI E 400), (q41, kI E 200), (q50, kI E 200), (q59, kI E 200), (q68, kL E 200), (q77, kL E 200)]) rfl ?_
  refine g_aload_n C (i := 0) dk_M_82 rfl rfl ?_
  refine g_sipush C (v := 200) dk_M_83 (by decide) ?_
  refine g_newI C (n' := 200) kw_aI (by decide) (by decide) (by decide) (Nat.le_of_ble_eq_true rfl) (Nat.le_of_ble_eq_true rfl) dk_M_86 (fun q86 => ?_)
  refine g_ws (ws2 := [(b, .inr (8, [.int 0, .int 0, .ref q7, .ref q15, .ref q23, .ref q32, .int 0, .int 0, .int 0, .int 0, .int 0, .long 0, .ref q41, .ref q50, .ref q59, .ref q68, .ref q77, .null, .null, .null, .null, .null, .int 0, .int 0, .int 0, .null, .null, .null, .int 0, .null, .int 0, .int 0, .long 0, .long 0, .null])), (q7, kI E 20), (q15, kI E 20), (q23, kI E 20), (q32, kI E 400), (q41, kI E 200), (q50, kI E 200), (q59, kI E 200), (q68, kL E 200), (q77, kL E 200), (q86, kI E 200)]) rfl ?_
  refine g_putF C (F := cf_M) (n := 35) (j := 17) (ci := 8) (ty := .array .int) (v := .ref q86) hnm ct_M ty_M nm_M in_M 0 rfl rfl (by decide) kw_M_f38 rfl rfl (by decide +kernel) rfl rfl (Nat.le_of_ble_eq_true rfl) dk_M_88 ?_
  refine g_ws (ws2 := [(b, .inr (8, [.int 0, .int 0, .ref q7, .ref q15, .ref q23, .ref q32, .int 0, .int 0, .int 0, .int 0, .int 0, .long 0, .ref q41, .ref q50, .ref q59, .ref q68, .ref q77, .ref q86, .null, .null, .null, .null, .int 0, .int 0, .int 0, .null, .null, .null, .int 0, .null, .int 0, .int 0, .long 0, .long 0, .null])), (q7, kI E 20), (q15, kI E 20), (q23, kI E 20), (q32, kI E 400), (q41, kI E 200), (q50, kI E 200), (q59, kI E 200), (q68, kL E 200), (q77, kL E 200), (q86, kI E 200)]) rfl ?_
  refine g_aload_n C (i := 0) dk_M_91 rfl rfl ?_
  refine g_sipush C (v := 200) dk_M_92 (by decide) ?_
  refine g_newI C (n' := 200) kw_aI (by decide) (by decide) (by decide) (Nat.le_of_ble_eq_true rfl) (Nat.le_of_ble_eq_true rfl) dk_M_95 (fun q95 => ?_)
  refine g_ws (ws2 := [(b, .inr (8, [.int 0, .int 0, .ref q7, .ref q15, .ref q23, .ref q32, .int 0, .int 0, .int 0, .int 0, .int 0, .long 0, .ref q41, .ref q50, .ref q59, .ref q68, .ref q77, .ref q86, .null, .null, .null, .null, .int 0, .int 0, .int 0, .null, .null, .null, .int 0, .null, .int 0, .int 0, .long 0, .long 0, .null])), (q7, kI E 20), (q15, kI E 20), (q23, kI E 20), (q32, kI E 400), (q41, kI E 200), (q50, kI E 200), (q59, kI E 200), (q68, kL E 200), (q77, kL E 200), (q86, kI E 200), (q95, kI E 200)]) rfl ?_
  refine g_putF C (F := cf_M) (n := 35) (j := 18) (ci := 8) (ty := .array .int) (v := .ref q95) hnm ct_M ty_M nm_M in_M 0 rfl rfl (by decide) kw_M_f41 rfl rfl (by decide +kernel) rfl rfl (Nat.le_of_ble_eq_true rfl) dk_M_97 ?_
  refine g_ws (ws2 := [(b, .inr (8, [.int 0, .int 0, .ref q7, .ref q15, .ref q23, .ref q32, .int 0, .int 0, .int 0, .int 0, .int 0, .long 0, .ref q41, .ref q50, .ref q59, .ref q68, .ref q77, .ref q86, .ref q95, .null, .null, .null, .int 0, .int 0, .int 0, .null, .null, .null, .int 0, .null, .int 0, .int 0, .long 0, .long 0, .null])), (q7, kI E 20), (q15, kI E 20), (q23, kI E 20), (q32, kI E 400), (q41, kI E 200), (q50, kI E 200), (q59, kI E 200), (q68, kL E 200), (q77, kL E 200), (q86, kI E 200), (q95, kI E 200)]) rfl ?_
  refine g_aload_n C (i := 0) dk_M_100 rfl rfl ?_
  refine g_sipush C (v := 200) dk_M_101 (by decide) ?_
  refine g_newI C (n' := 200) kw_aI (by decide) (by decide) (by decide) (Nat.le_of_ble_eq_true rfl) (Nat.le_of_ble_eq_true rfl) dk_M_104 (fun q104 => ?_)
  refine g_ws (ws2 := [(b, .inr (8, [.int 0, .int 0, .ref q7, .ref q15, .ref q23, .ref q32, .int 0, .int 0, .int 0, .int 0, .int 0, .long 0, .ref q41, .ref q50, .ref q59, .ref q68, .ref q77, .ref q86, .ref q95, .null, .null, .null, .int 0, .int 0, .int 0, .null, .null, .null, .int 0, .null, .int 0, .int 0, .long 0, .long 0, .null])), (q7, kI E 20), (q15, kI E 20), (q23, kI E 20), (q32, kI E 400), (q41, kI E 200), (q50, kI E 200), (q59, kI E 200), (q68, kL E 200), (q77, kL E 200), (q86, kI E 200), (q95, kI E 200), (q104, kI E 200)]) rfl ?_
  refine g_putF C (F := cf_M) (n := 35) (j := 19) (ci := 8) (ty := .array .int) (v := .ref q104) hnm ct_M ty_M nm_M in_M 0 rfl rfl (by decide) kw_M_f44 rfl rfl (by decide +kernel) rfl rfl (Nat.le_of_ble_eq_true rfl) dk_M_106 ?_
  refine g_ws (ws2 := [(b, .inr (8, [.int 0, .int 0, .ref q7, .ref q15, .ref q23, .ref q32, .int 0, .int 0, .int 0, .int 0, .int 0, .long 0, .ref q41, .ref q50, .ref q59, .ref q68, .ref q77, .ref q86, .ref q95, .ref q104, .null, .null, .int 0, .int 0, .int 0, .null, .null, .null, .int 0, .null, .int 0, .int 0, .long 0, .long 0, .null])), (q7, kI E 20), (q15, kI E 20), (q23, kI E 20), (q32, kI E 400), (q41, kI E 200), (q50, kI E 200), (q59, kI E 200), (q68, kL E 200), (q77, kL E 200), (q86, kI E 200), (q95, kI E 200), (q104, kI E 200)]) rfl ?_
  refine g_aload_n C (i := 0) dk_M_109 rfl rfl ?_
  refine g_sipush C (v := 200) dk_M_110 (by decide) ?_
  refine g_newI C (n' := 200) kw_aI (by decide) (by decide) (by decide) (Nat.le_of_ble_eq_true rfl) (Nat.le_of_ble_eq_true rfl) dk_M_113 (fun q113 => ?_)
  refine g_ws (ws2 := [(b, .inr (8, [.int 0, .int 0, .ref q7, .ref q15, .ref q23, .ref q32, .int 0, .int 0, .int 0, .int 0, .int 0, .long 0, .ref q41, .ref q50, .ref q59, .ref q68, .ref q77, .ref q86, .ref q95, .ref q104, .null, .null, .int 0, .int 0, .int 0, .null, .null, .null, .int 0, .null, .int 0, .int 0, .long 0, .long 0, .null])), (q7, kI E 20), (q15, kI E 20), (q23, kI E 20), (q32, kI E 400), (q41, kI E 200), (q50, kI E 200), (q59, kI E 200), (q68, kL E 200), (q77, kL E 200), (q86, kI E 200), (q95, kI E 200), (q104, kI E 200), (q113, kI E 200)]) rfl ?_
  refine g_putF C (F := cf_M) (n := 35) (j := 20) (ci := 8) (ty := .array .int) (v := .ref q113) hnm ct_M ty_M nm_M in_M 0 rfl rfl (by decide) kw_M_f47 rfl rfl (by decide +kernel) rfl rfl (Nat.le_of_ble_eq_true rfl) dk_M_115 ?_
  refine g_ws (ws2 := [(b, .inr (8, [.int 0, .int 0, .ref q7, .ref q15, .ref q23, .ref q32, .int 0, .int 0, .int 0, .int 0, .int 0, .long 0, .ref q41, .ref q50, .ref q59, .ref q68, .ref q77, .ref q86, .ref q95, .ref q104, .ref q113, .null, .int 0, .int 0, .int 0, .null, .null, .null, .int 0, .null, .int 0, .int 0, .long 0, .long 0, .null])), (q7, kI E 20), (q15, kI E 20), (q23, kI E 20), (q32, kI E 400), (q41, kI E 200), (q50, kI E 200), (q59, kI E 200), (q68, kL E 200), (q77, kL E 200), (q86, kI E 200), (q95, kI E 200), (q104, kI E 200), (q113, kI E 200)]) rfl ?_
  refine g_aload_n C (i := 0) dk_M_118 rfl rfl ?_
  refine g_sipush C (v := 200) dk_M_119 (by decide) ?_
  refine g_newL C (n' := 200) kw_aL (by decide) (by decide) (by decide) (Nat.le_of_ble_eq_true rfl) (Nat.le_of_ble_eq_true rfl) dk_M_122 (fun q122 => ?_)
  refine g_ws (ws2 := [(b, .inr (8, [.int 0, .int 0, .ref q7, .ref q15, .ref q23, .ref q32, .int 0, .int 0, .int 0, .int 0, .int 0, .long 0, .ref q41, .ref q50, .ref q59, .ref q68, .ref q77, .ref q86, .ref q95, .ref q104, .ref q113, .null, .int 0, .int 0, .int 0, .null, .null, .null, .int 0, .null, .int 0, .int 0, .long 0, .long 0, .null])), (q7, kI E 20), (q15, kI E 20), (q23, kI E 20), (q32, kI E 400), (q41, kI E 200), (q50, kI E 200), (q59, kI E 200), (q68, kL E 200), (q77, kL E 200), (q86, kI E 200), (q95, kI E 200), (q104, kI E 200), (q113, kI E 200), (q122, kL E 200)]) rfl ?_
  refine g_putF C (F := cf_M) (n := 35) (j := 21) (ci := 8) (ty := .array .long) (v := .ref q122) hnm ct_M ty_M nm_M in_M 0 rfl rfl (by decide) kw_M_f50 rfl rfl (by decide +kernel) rfl rfl (Nat.le_of_ble_eq_true rfl) dk_M_124 ?_
  refine g_ws (ws2 := [(b, .inr (8, [.int 0, .int 0, .ref q7, .ref q15, .ref q23, .ref q32, .int 0, .int 0, .int 0, .int 0, .int 0, .long 0, .ref q41, .ref q50, .ref q59, .ref q68, .ref q77, .ref q86, .ref q95, .ref q104, .ref q113, .ref q122, .int 0, .int 0, .int 0, .null, .null, .null, .int 0, .null, .int 0, .int 0, .long 0, .long 0, .null])), (q7, kI E 20), (q15, kI E 20), (q23, kI E 20), (q32, kI E 400), (q41, kI E 200), (q50, kI E 200), (q59, kI E 200), (q68, kL E 200), (q77, kL E 200), (q86, kI E 200), (q95, kI E 200), (q104, kI E 200), (q113, kI E 200), (q122, kL E 200)]) rfl ?_
  refine g_aload_n C (i := 0) dk_M_127 rfl rfl ?_
  refine g_sipush C (v := 300) dk_M_128 (by decide) ?_
  refine g_newI C (n' := 300) kw_aI (by decide) (by decide) (by decide) (Nat.le_of_ble_eq_true rfl) (Nat.le_of_ble_eq_true rfl) dk_M_131 (fun q131 => ?_)
  refine g_ws (ws2 := [(b, .inr (8, [.int 0, .int 0, .ref q7, .ref q15, .ref q23, .ref q32, .int 0, .int 0, .int 0, .int 0, .int 0, .long 0, .ref q41, .ref q50, .ref q59, .ref q68, .ref q77, .ref q86, .ref q95, .ref q104, .ref q113, .ref q122, .int 0, .int 0, .int 0, .null, .null, .null, .int 0, .null, .int 0, .int 0, .long 0, .long 0, .null])), (q7, kI E 20), (q15, kI E 20), (q23, kI E 20), (q32, kI E 400), (q41, kI E 200), (q50, kI E 200), (q59, kI E 200), (q68, kL E 200), (q77, kL E 200), (q86, kI E 200), (q95, kI E 200), (q104, kI E 200), (q113, kI E 200), (q122, kL E 200), (q131, kI E 300)]) rfl ?_
  refine g_putF C (F := cf_M) (n := 35) (j := 25) (ci := 8) (ty := .array .int) (v := .ref q131) hnm ct_M ty_M nm_M in_M 0 rfl rfl (by decide) kw_M_f53 rfl rfl (by decide +kernel) rfl rfl (Nat.le_of_ble_eq_true rfl) dk_M_133 ?_
  refine g_ws (ws2 := [(b, .inr (8, [.int 0, .int 0, .ref q7, .ref q15, .ref q23, .ref q32, .int 0, .int 0, .int 0, .int 0, .int 0, .long 0, .ref q41, .ref q50, .ref q59, .ref q68, .ref q77, .ref q86, .ref q95, .ref q104, .ref q113, .ref q122, .int 0, .int 0, .int 0, .ref q131, .null, .null, .int 0, .null, .int 0, .int 0, .long 0, .long 0, .null])), (q7, kI E 20), (q15, kI E 20), (q23, kI E 20), (q32, kI E 400), (q41, kI E 200), (q50, kI E 200), (q59, kI E 200), (q68, kL E 200), (q77, kL E 200), (q86, kI E 200), (q95, kI E 200), (q104, kI E 200), (q113, kI E 200), (q122, kL E 200), (q131, kI E 300)]) rfl ?_
  refine g_aload_n C (i := 0) dk_M_136 rfl rfl ?_
  refine g_sipush C (v := 300) dk_M_137 (by decide) ?_
  refine g_newI C (n' := 300) kw_aI (by decide) (by decide) (by decide) (Nat.le_of_ble_eq_true rfl) (Nat.le_of_ble_eq_true rfl) dk_M_140 (fun q140 => ?_)
  refine g_ws (ws2 := [(b, .inr (8, [.int 0, .int 0, .ref q7, .ref q15, .ref q23, .ref q32, .int 0, .int 0, .int 0, .int 0, .int 0, .long 0, .ref q41, .ref q50, .ref q59, .ref q68, .ref q77, .ref q86, .ref q95, .ref q104, .ref q113, .ref q122, .int 0, .int 0, .int 0, .ref q131, .null, .null, .int 0, .null, .int 0, .int 0, .long 0, .long 0, .null])), (q7, kI E 20), (q15, kI E 20), (q23, kI E 20), (q32, kI E 400), (q41, kI E 200), (q50, kI E 200), (q59, kI E 200), (q68, kL E 200), (q77, kL E 200), (q86, kI E 200), (q95, kI E 200), (q104, kI E 200), (q113, kI E 200), (q122, kL E 200), (q131, kI E 300), (q140, kI E 300)]) rfl ?_
  refine g_putF C (F := cf_M) (n := 35) (j := 26) (ci := 8) (ty := .array .int) (v := .ref q140) hnm ct_M ty_M nm_M in_M 0 rfl rfl (by decide) kw_M_f56 rfl rfl (by decide +kernel) rfl rfl (Nat.le_of_ble_eq_true rfl) dk_M_142 ?_
  refine g_ws (ws2 := [(b, .inr (8, [.int 0, .int 0, .ref q7, .ref q15, .ref q23, .ref q32, .int 0, .int 0, .int 0, .int 0, .int 0, .long 0, .ref q41, .ref q50, .ref q59, .ref q68, .ref q77, .ref q86, .ref q95, .ref q104, .ref q113, .ref q122, .int 0, .int 0, .int 0, .ref q131, .ref q140, .null, .int 0, .null, .int 0, .int 0, .long 0, .long 0, .null])), (q7, kI E 20), (q15, kI E 20), (q23, kI E 20), (q32, kI E 400), (q41, kI E 200), (q50, kI E 200), (q59, kI E 200), (q68, kL E 200), (q77, kL E 200), (q86, kI E 200), (q95, kI E 200), (q104, kI E 200), (q113, kI E 200), (q122, kL E 200), (q131, kI E 300), (q140, kI E 300)]) rfl ?_
  refine g_aload_n C (i := 0) dk_M_145 rfl rfl ?_
  refine g_sipush C (v := 300) dk_M_146 (by decide) ?_
  refine g_newI C (n' := 300) kw_aI (by decide) (by decide) (by decide) (Nat.le_of_ble_eq_true rfl) (Nat.le_of_ble_eq_true rfl) dk_M_149 (fun q149 => ?_)
  refine g_ws (ws2 := [(b, .inr (8, [.int 0, .int 0, .ref q7, .ref q15, .ref q23, .ref q32, .int 0, .int 0, .int 0, .int 0, .int 0, .long 0, .ref q41, .ref q50, .ref q59, .ref q68, .ref q77, .ref q86, .ref q95, .ref q104, .ref q113, .ref q122, .int 0, .int 0, .int 0, .ref q131, .ref q140, .null, .int 0, .null, .int 0, .int 0, .long 0, .long 0, .null])), (q7, kI E 20), (q15, kI E 20), (q23, kI E 20), (q32, kI E 400), (q41, kI E 200), (q50, kI E 200), (q59, kI E 200), (q68, kL E 200), (q77, kL E 200), (q86, kI E 200), (q95, kI E 200), (q104, kI E 200), (q113, kI E 200), (q122, kL E 200), (q131, kI E 300), (q140, kI E 300), (q149, kI E 300)]) rfl ?_
  refine g_putF C (F := cf_M) (n := 35) (j := 27) (ci := 8) (ty := .array .int) (v := .ref q149) hnm ct_M ty_M nm_M in_M 0 rfl rfl (by decide) kw_M_f59 rfl rfl (by decide +kernel) rfl rfl (Nat.le_of_ble_eq_true rfl) dk_M_151 ?_
  refine g_ws (ws2 := [(b, .inr (8, [.int 0, .int 0, .ref q7, .ref q15, .ref q23, .ref q32, .int 0, .int 0, .int 0, .int 0, .int 0, .long 0, .ref q41, .ref q50, .ref q59, .ref q68, .ref q77, .ref q86, .ref q95, .ref q104, .ref q113, .ref q122, .int 0, .int 0, .int 0, .ref q131, .ref q140, .ref q149, .int 0, .null, .int 0, .int 0, .long 0, .long 0, .null])), (q7, kI E 20), (q15, kI E 20), (q23, kI E 20), (q32, kI E 400), (q41, kI E 200), (q50, kI E 200), (q59, kI E 200), (q68, kL E 200), (q77, kL E 200), (q86, kI E 200), (q95, kI E 200), (q104, kI E 200), (q113, kI E 200), (q122, kL E 200), (q131, kI E 300), (q140, kI E 300), (q149, kI E 300)]) rfl ?_
  refine g_aload_n C (i := 0) dk_M_154 rfl rfl ?_
  refine g_sipush C (v := 300) dk_M_155 (by decide) ?_
  refine g_newI C (n' := 300) kw_aI (by decide) (by decide) (by decide) (Nat.le_of_ble_eq_true rfl) (Nat.le_of_ble_eq_true rfl) dk_M_158 (fun q158 => ?_)
  refine g_ws (ws2 := [(b, .inr (8, [.int 0, .int 0, .ref q7, .ref q15, .ref q23, .ref q32, .int 0, .int 0, .int 0, .int 0, .int 0, .long 0, .ref q41, .ref q50, .ref q59, .ref q68, .ref q77, .ref q86, .ref q95, .ref q104, .ref q113, .ref q122, .int 0, .int 0, .int 0, .ref q131, .ref q140, .ref q149, .int 0, .null, .int 0, .int 0, .long 0, .long 0, .null])), (q7, kI E 20), (q15, kI E 20), (q23, kI E 20), (q32, kI E 400), (q41, kI E 200), (q50, kI E 200), (q59, kI E 200), (q68, kL E 200), (q77, kL E 200), (q86, kI E 200), (q95, kI E 200), (q104, kI E 200), (q113, kI E 200), (q122, kL E 200), (q131, kI E 300), (q140, kI E 300), (q149, kI E 300), (q158, kI E 300)]) rfl ?_
  refine g_putF C (F := cf_M) (n := 35) (j := 29) (ci := 8) (ty := .array .int) (v := .ref q158) hnm ct_M ty_M nm_M in_M 0 rfl rfl (by decide) kw_M_f62 rfl rfl (by decide +kernel) rfl rfl (Nat.le_of_ble_eq_true rfl) dk_M_160 ?_
  refine g_ws (ws2 := [(b, .inr (8, [.int 0, .int 0, .ref q7, .ref q15, .ref q23, .ref q32, .int 0, .int 0, .int 0, .int 0, .int 0, .long 0, .ref q41, .ref q50, .ref q59, .ref q68, .ref q77, .ref q86, .ref q95, .ref q104, .ref q113, .ref q122, .int 0, .int 0, .int 0, .ref q131, .ref q140, .ref q149, .int 0, .ref q158, .int 0, .int 0, .long 0, .long 0, .null])), (q7, kI E 20), (q15, kI E 20), (q23, kI E 20), (q32, kI E 400), (q41, kI E 200), (q50, kI E 200), (q59, kI E 200), (q68, kL E 200), (q77, kL E 200), (q86, kI E 200), (q95, kI E 200), (q104, kI E 200), (q113, kI E 200), (q122, kL E 200), (q131, kI E 300), (q140, kI E 300), (q149, kI E 300), (q158, kI E 300)]) rfl ?_
  refine g_aload_n C (i := 0) dk_M_163 rfl rfl ?_
  refine g_bipush C (v := 100) dk_M_164 (by decide) ?_
  refine g_newL C (n' := 100) kw_aL (by decide) (by decide) (by decide) (Nat.le_of_ble_eq_true rfl) (Nat.le_of_ble_eq_true rfl) dk_M_166 (fun q166 => ?_)
  refine g_ws (ws2 := [(b, .inr (8, [.int 0, .int 0, .ref q7, .ref q15, .ref q23, .ref q32, .int 0, .int 0, .int 0, .int 0, .int 0, .long 0, .ref q41, .ref q50, .ref q59, .ref q68, .ref q77, .ref q86, .ref q95, .ref q104, .ref q113, .ref q122, .int 0, .int 0, .int 0, .ref q131, .ref q140, .ref q149, .int 0, .ref q158, .int 0, .int 0, .long 0, .long 0, .null])), (q7, kI E 20), (q15, kI E 20), (q23, kI E 20), (q32, kI E 400), (q41, kI E 200), (q50, kI E 200), (q59, kI E 200), (q68, kL E 200), (q77, kL E 200), (q86, kI E 200), (q95, kI E 200), (q104, kI E 200), (q113, kI E 200), (q122, kL E 200), (q131, kI E 300), (q140, kI E 300), (q149, kI E 300), (q158, kI E 300), (q166, kL E 100)]) rfl ?_
  refine g_putF C (F := cf_M) (n := 35) (j := 34) (ci := 8) (ty := .array .long) (v := .ref q166) hnm ct_M ty_M nm_M in_M 0 rfl rfl (by decide) kw_M_f65 rfl rfl (by decide +kernel) rfl rfl (Nat.le_of_ble_eq_true rfl) dk_M_168 ?_
  refine g_ws (ws2 := [(b, .inr (8, [.int 0, .int 0, .ref q7, .ref q15, .ref q23, .ref q32, .int 0, .int 0, .int 0, .int 0, .int 0, .long 0, .ref q41, .ref q50, .ref q59, .ref q68, .ref q77, .ref q86, .ref q95, .ref q104, .ref q113, .ref q122, .int 0, .int 0, .int 0, .ref q131, .ref q140, .ref q149, .int 0, .ref q158, .int 0, .int 0, .long 0, .long 0, .ref q166])), (q7, kI E 20), (q15, kI E 20), (q23, kI E 20), (q32, kI E 400), (q41, kI E 200), (q50, kI E 200), (q59, kI E 200), (q68, kL E 200), (q77, kL E 200), (q86, kI E 200), (q95, kI E 200), (q104, kI E 200), (q113, kI E 200), (q122, kL E 200), (q131, kI E 300), (q140, kI E 300), (q149, kI E 300), (q158, kI E 300), (q166, kL E 100)]) rfl ?_
  exact g_vret C hr dk_M_171 [q7, q15, q23, q32, q41, q50, q59, q68, q77, q86, q95, q104, q113, q122, q131, q140, q149, q158, q166] rfl (Nat.le_of_ble_eq_true rfl) (Nat.le_of_ble_eq_true rfl)
