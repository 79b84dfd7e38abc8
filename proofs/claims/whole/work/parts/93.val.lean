/-! RangeReckoner.value: it answers, or throws -/
def y_R_value : MethodName := ⟨cn_R, "value", "(I)J"⟩
theorem pl_R_value : y_R_value.cls ≠ "java/lang/invoke/MethodHandle" ∧ y_R_value.cls ≠ "java/lang/invoke/VarHandle" ∧ (parseMethodDescriptor y_R_value.desc).map (fun d => d.parameters.length) = some 1 := by decide +kernel
theorem zt_d {w : Cond} (h : w ∈ tables_1 ∧ goodWord w = true) : w ∈ zT := by
  obtain ⟨i, hi⟩ := List.getElem?_of_mem h.1
  exact zt_mem i hi h.2
def vwords : List Cond := [.classLink "RangeReckoner" 81 xIO, .instantiable xIO 6, .initialized xIO]
set_option maxRecDepth 100000 in
theorem vw_in : ∀ w ∈ vwords, w ∈ tables_1 ∧ goodWord w = true := by decide +kernel
theorem vw_cl : Cond.classLink "RangeReckoner" 81 xIO ∈ zT := zt_d (vw_in _ (List.mem_of_getElem? (i := 0) rfl))
theorem vw_is : Cond.instantiable xIO 6 ∈ zT := zt_d (vw_in _ (List.mem_of_getElem? (i := 1) rfl))
theorem vw_it : Cond.initialized xIO ∈ zT := zt_d (vw_in _ (List.mem_of_getElem? (i := 2) rfl))
set_option maxRecDepth 100000 in
theorem nl_R_88 : Cond.methodLinkNest "RangeReckoner" 88 y_T_worthOf "RangeReckoner" ∈ xN := by decide +kernel
theorem zt_selm {q : MethodName × Nat} (h : q ∈ lw_privs) : Cond.selects q.1.cls q.1 q.1 ∈ zT := by
  obtain ⟨i, hi⟩ := List.getElem?_of_mem h
  exact zt_sel i hi
set_option maxRecDepth 100000 in
theorem vw_w : ∀ w ∈ [Cond.instanceMethod y_T_worthOf, .initialized y_T_worthOf.cls, .code y_T_worthOf prog_6_method_13_code 4 (some .long)], w ∈ tables_1 ∧ goodWord w = true := by decide +kernel
set_option maxRecDepth 100000 in
theorem wn_T_worthOf : ∀ w ∈ zwVN y_T_worthOf prog_6_method_13_code 4 (some .long), w ∈ zT := List.forall_mem_cons.mpr ⟨zt_d (vw_w _ (List.mem_of_getElem? (i := 0) rfl)), List.forall_mem_cons.mpr ⟨zt_selm (q := (y_T_worthOf, 11)) (by decide +kernel), List.forall_mem_cons.mpr ⟨zt_d (vw_w _ (List.mem_of_getElem? (i := 1) rfl)), List.forall_mem_cons.mpr ⟨zt_d (vw_w _ (List.mem_of_getElem? (i := 2) rfl)), fun _ h => by cases h⟩⟩⟩⟩
theorem d_R_value_0 : decode prog_1_method_7_code 0 = .ok (.aload_n 0, 1) := by decide +kernel
theorem d_R_value_1 : decode prog_1_method_7_code 1 = .ok (.getfield 26, 3) := by decide +kernel
theorem d_R_value_4 : decode prog_1_method_7_code 4 = .ok (.iload_n 1, 1) := by decide +kernel
theorem d_R_value_5 : decode prog_1_method_7_code 5 = .ok (.invokevirtual 64, 3) := by decide +kernel
theorem d_R_value_8 : decode prog_1_method_7_code 8 = .ok (.ifCond .ne 13, 3) := by decide +kernel
theorem d_R_value_11 : decode prog_1_method_7_code 11 = .ok (.new 81, 3) := by decide +kernel
theorem d_R_value_14 : decode prog_1_method_7_code 14 = .ok (.dup, 1) := by decide +kernel
theorem d_R_value_15 : decode prog_1_method_7_code 15 = .ok (.ldc 83, 2) := by decide +kernel
theorem d_R_value_17 : decode prog_1_method_7_code 17 = .ok (.invokespecial 85, 3) := by decide +kernel
theorem d_R_value_20 : decode prog_1_method_7_code 20 = .ok (.athrow, 1) := by decide +kernel
theorem d_R_value_21 : decode prog_1_method_7_code 21 = .ok (.aload_n 0, 1) := by decide +kernel
theorem d_R_value_22 : decode prog_1_method_7_code 22 = .ok (.getfield 26, 3) := by decide +kernel
theorem d_R_value_25 : decode prog_1_method_7_code 25 = .ok (.iload_n 1, 1) := by decide +kernel
theorem d_R_value_26 : decode prog_1_method_7_code 26 = .ok (.aload_n 0, 1) := by decide +kernel
theorem d_R_value_27 : decode prog_1_method_7_code 27 = .ok (.getfield 12, 3) := by decide +kernel
theorem d_R_value_30 : decode prog_1_method_7_code 30 = .ok (.invokevirtual 88, 3) := by decide +kernel
theorem d_R_value_33 : decode prog_1_method_7_code 33 = .ok (.lreturn, 1) := by decide +kernel
/-- there is a part of that number -/
def wp_R_value (l1 : Int32) (h : zH) (post : Int64 → zH → Prop) : Prop := xTm (h.2.2 0 3) ∧ wp_T_has (h.2.2 0 3) l1 h (fun r2 h3 => ¬ r2 = 0 ∧ xTm (h3.2.2 0 3) ∧ wp_T_worthOf (h3.2.2 0 3) l1 h3 (fun r h4 => post r h4))
set_option maxRecDepth 100000 in
set_option maxHeartbeats 4000000 in
theorem t_R_value {l : Launch} {E : zE} {G : (Nat → Prop) → State → Prop} (hG : xGG E G) {l1 : Int32} {h : zH} {post : Int64 → zH → Prop} (hw : wp_R_value l1 h post) : Ct l xX E xcl xN zT G 4 97 y_R_value prog_1_method_7_code 2 (some .long) [.ref (E.2.2.1 0), .int l1] h (zPl post) := by
  unfold wp_R_value at hw
  refine Ct.of (by decide) (Nat.le_of_ble_eq_true rfl) ?_
  intro p e s m below meth c A C hr
  refine z_lv (lv2 := [some (.ref (E.2.2.1 0)), some (.int l1)]) rfl ?_
  refine z_aload_n C (i := 0) d_R_value_0 rfl rfl ?_
  refine z_getR C (ci := 0) (j := 3) (F := cf_R) (by decide) rfl rfl in_R (by decide) fl_R_26 rfl d_R_value_1 ?_
  refine z_iload_n C (i := 1) d_R_value_4 rfl rfl ?_
  obtain ⟨hk1, hw⟩ := hw
  refine z_callVNi ⟨xN_ok, hG.1⟩ zT_good C (t_T_has hG hw) wn_T_has nl_R_64 (xTm_l0 hk1) (xTm_0 hk1) rfl (by decide) (by decide) pl_T_has rfl rfl (Nat.le_of_ble_eq_true rfl) d_R_value_5 (fun r2 h3 hw => ?_)
  obtain ⟨hne, hk2, hw⟩ := hw
  refine z_if_ne C (tgt := 21) d_R_value_8 (by decide) (fun q => ?_) (fun q => absurd q hne)
  refine z_aload_n C (i := 0) d_R_value_21 rfl rfl ?_
  refine z_getR C (ci := 0) (j := 3) (F := cf_R) (by decide) rfl rfl in_R (by decide) fl_R_26 rfl d_R_value_22 ?_
  refine z_iload_n C (i := 1) d_R_value_25 rfl rfl ?_
  refine z_aload_n C (i := 0) d_R_value_26 rfl rfl ?_
  refine z_getS C (ci := 0) (j := 0) (F := cf_R) (by decide) rfl rfl in_R (by decide) fl_R_12 rfl d_R_value_27 ?_
  refine z_callVNl ⟨xN_ok, hG.1⟩ zT_good C (t_T_worthOf hG hw) wn_T_worthOf nl_R_88 (xTm_l0 hk2) (xTm_0 hk2) rfl (by decide) (by decide) pl_T_worthOf rfl rfl (Nat.le_of_ble_eq_true rfl) d_R_value_30 (fun r5 h6 hw => ?_)
  exact z_lret C hr d_R_value_33 hw
