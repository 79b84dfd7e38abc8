/-! THE LAW'S value: it answers 0 and has stored the value, or 1 and nothing has changed -/
def cn_L : String := "RangeReckonerLaw"
def y_L_value : MethodName := ⟨cn_L, "value", "(LRangeReckoner;I[J)I"⟩
def hh_L : List (Nat × Nat × Nat × Nat) := [(0, 8, 11, 13)]
set_option maxRecDepth 100000 in
theorem lv_in : ∀ w ∈ [Cond.methodLink cn_L 7 y_R_value, .instanceMethod y_R_value, .selects y_R_value.cls y_R_value y_R_value, .initialized y_R_value.cls, .code y_R_value prog_1_method_7_code 2 (some .long), .classLink cn_L 13 xIO, .codeWith y_L_value method_3_code 4 (some .int) hh_L, .static y_L_value, .initialized cn_L, .methodLink cn_L 42 y_L_value], w ∈ tables_1 ∧ goodWord w = true := by decide +kernel
theorem lw_7 : ∀ w ∈ zwV cn_L 7 y_R_value prog_1_method_7_code 2 (some .long), w ∈ zT := List.forall_mem_cons.mpr ⟨zt_d (lv_in _ (List.mem_of_getElem? (i := 0) rfl)), List.forall_mem_cons.mpr ⟨zt_d (lv_in _ (List.mem_of_getElem? (i := 1) rfl)), List.forall_mem_cons.mpr ⟨zt_d (lv_in _ (List.mem_of_getElem? (i := 2) rfl)), List.forall_mem_cons.mpr ⟨zt_d (lv_in _ (List.mem_of_getElem? (i := 3) rfl)), List.forall_mem_cons.mpr ⟨zt_d (lv_in _ (List.mem_of_getElem? (i := 4) rfl)), fun _ h => by cases h⟩⟩⟩⟩⟩
theorem lw_13 : Cond.classLink cn_L 13 xIO ∈ zT := zt_d (lv_in _ (List.mem_of_getElem? (i := 5) rfl))
theorem lw_cw : Cond.codeWith y_L_value method_3_code 4 (some .int) hh_L ∈ zT := zt_d (lv_in _ (List.mem_of_getElem? (i := 6) rfl))
theorem lw_st : Cond.static y_L_value ∈ zT := zt_d (lv_in _ (List.mem_of_getElem? (i := 7) rfl))
theorem lw_it : Cond.initialized y_L_value.cls ∈ zT := zt_d (lv_in _ (List.mem_of_getElem? (i := 8) rfl))
theorem lw_42 : Cond.methodLink cn_L 42 y_L_value ∈ zT := zt_d (lv_in _ (List.mem_of_getElem? (i := 9) rfl))
theorem pl_L_value : y_L_value.cls ≠ "java/lang/invoke/MethodHandle" ∧ y_L_value.cls ≠ "java/lang/invoke/VarHandle" ∧ (parseMethodDescriptor y_L_value.desc).map (fun d => d.parameters.length) = some 3 := by decide +kernel
theorem d_Lv_0 : decode method_3_code 0 = .ok (.aload_n 2, 1) := by decide +kernel
theorem d_Lv_1 : decode method_3_code 1 = .ok (.iconst 0, 1) := by decide +kernel
theorem d_Lv_2 : decode method_3_code 2 = .ok (.aload_n 0, 1) := by decide +kernel
theorem d_Lv_3 : decode method_3_code 3 = .ok (.iload_n 1, 1) := by decide +kernel
theorem d_Lv_4 : decode method_3_code 4 = .ok (.invokevirtual 7, 3) := by decide +kernel
theorem d_Lv_7 : decode method_3_code 7 = .ok (.lastore, 1) := by decide +kernel
theorem d_Lv_8 : decode method_3_code 8 = .ok (.goto 6, 3) := by decide +kernel
theorem d_Lv_11 : decode method_3_code 11 = .ok (.astore_n 3, 1) := by decide +kernel
theorem d_Lv_12 : decode method_3_code 12 = .ok (.iconst 1, 1) := by decide +kernel
theorem d_Lv_13 : decode method_3_code 13 = .ok (.ireturn, 1) := by decide +kernel
theorem d_Lv_14 : decode method_3_code 14 = .ok (.iconst 0, 1) := by decide +kernel
theorem d_Lv_15 : decode method_3_code 15 = .ok (.ireturn, 1) := by decide +kernel
/-- the contract of a method with handlers -/
def Cw (l : Launch) (E : zE) (G : (Nat → Prop) → State → Prop) (d w mc ms : Nat) (y : MethodName) (cc : ByteArray) (nL : Nat) (ret : Option FieldType) (hh : List (Nat × Nat × Nat × Nat)) (av : List Value) (h : zH) (post : Option Value → zH → Prop) : Prop :=
  ∀ sz : Nat, Met l y (Cond.codeWith y cc nL ret hh :: zT) (krm d w mc ms) (va_Pc av (zB xX E xcl xN G h sz)) (zQ xX E xcl (zA xX E sz) post) mc ms (zA xX E sz)
set_option maxRecDepth 100000 in
set_option maxHeartbeats 4000000 in
theorem t_L_value {l : Launch} {E : zE} {G : (Nat → Prop) → State → Prop} (hG : xGG E G) {l1 : Int32} {h : zH} {post : Int32 → zH → Prop} (hw : wp_R_value l1 h (fun r h2 => post 0 (zl h2 59 0 r))) : Cw l E G 5 120 0 0 y_L_value method_3_code 4 (some .int) hh_L [.ref (E.2.2.1 0), .int l1, .ref (E.2.2.1 59)] h (zPi post) := by
  intro sz
  refine va_MetW (cc := method_3_code) (maxL := 4) (ret := some .int) (hh := hh_L) (by decide) rfl ?_
  intro p e s m args below meth c s₁ B hml hv
  obtain ⟨rfl, hsz, hP, hK, hD0, hN, hGG⟩ := hv
  subst hsz
  have hts := atoms_spec (ws := Cond.codeWith y_L_value method_3_code 4 (some .int) hh_L :: zT) B.pre
  have hown : s.vm.findClass y_L_value.cls = some m.cls := findClass_of_methodNamed B.named
  have C : ZC p (krm 5 120 0 0) s m [.ref (E.2.2.1 0), .int l1, .ref (E.2.2.1 59)].toArray meth c method_3_code 4 zT y_L_value.cls E xcl xN G (zA xX E s.heap.size) xX 0 0 s.heap := ⟨⟨B.exec, B.bytes, hml, hown, fun w hw => hts w (List.mem_cons_of_mem _ hw)⟩, hK, hN, B.notSynchronized, ⟨Nat.zero_le _, Nat.zero_le _⟩, fun q hq => Or.inr hq, hGG⟩
  have hD : va_D (zA xX E s.heap.size) (zw xX E h) := hD0.weaken (fun k q hq _ => by
    have hk : k < xX.1 := by
      have := (List.getElem?_eq_some_iff.mp hq).1
      simpa [zw] using this
    rw [zw_at hk] at hq
    cases hq
    exact Or.inl ⟨k, hk, rfl⟩)
  have hl := lv_entry [.ref (E.2.2.1 0), .int l1, .ref (E.2.2.1 59)] (n := 4) (Nat.le_of_ble_eq_true rfl)
  rw [lg_entry_eq]
  generalize (lg_sl [.ref (E.2.2.1 0), .int l1, .ref (E.2.2.1 59)] ++ List.replicate (4 - (lg_sl [.ref (E.2.2.1 0), .int l1, .ref (E.2.2.1 59)]).length) Slot.unset).toArray = ls at hl ⊢
  suffices body : ZW p l e (krm 5 120 0 0) s m [.ref (E.2.2.1 0), .int l1, .ref (E.2.2.1 59)].toArray below meth c (MQ below (zQ xX E xcl (zA xX E s.heap.size) (zPi post)) [.ref (E.2.2.1 0), .int l1, .ref (E.2.2.1 59)].toArray s 0 0 (zA xX E s.heap.size)) xX E xcl (zA xX E s.heap.size) s.heap 4 0 0 h 0 (zlv [.ref (E.2.2.1 0), .int l1, .ref (E.2.2.1 59)] 4) [] by
    exact body s.heap [] ls hP hD va_S.rf (zlv_in hl)
  refine z_lv (lv2 := [some (.ref (E.2.2.1 0)), some (.int l1), some (.ref (E.2.2.1 59)), none]) rfl ?_
  refine z_aload_n C (i := 2) d_Lv_0 rfl rfl ?_
  refine z_iconst C (v := 0) d_Lv_1 (by decide) ?_
  refine z_aload_n C (i := 0) d_Lv_2 rfl rfl ?_
  refine z_iload_n C (i := 1) d_Lv_3 rfl rfl ?_
  refine z_callVl ⟨xN_ok, hG.1⟩ zT_good C (t_R_value hG hw) lw_7 (by decide) rfl rfl (by decide) (by decide) pl_R_value rfl rfl (Nat.le_of_ble_eq_true rfl) d_Lv_4 (fun r h2 hw => ?_)
  refine z_last C (k := 59) (n := 1) (by decide) rfl (show ¬ ((0 : Int32) < 0 ∨ 1 ≤ (0 : Int32).toNatClampNeg) from by decide) d_Lv_7 (fun h3 e3 => ?_)
  subst e3
  refine z_goto C (tgt := 14) d_Lv_8 (by decide) ?_
  refine z_iconst C (v := 0) d_Lv_14 (by decide) ?_
  exact z_iret C B.returns d_Lv_15 hw
