theorem d_len_0 : decode prog_15_method_54_code 0 = .ok (.aload_n 0, 1) := by decide +kernel
theorem d_len_1 : decode prog_15_method_54_code 1 = .ok (.getfield 9, 3) := by decide +kernel
theorem d_len_4 : decode prog_15_method_54_code 4 = .ok (.arraylength, 1) := by decide +kernel
theorem d_len_5 : decode prog_15_method_54_code 5 = .ok (.aload_n 0, 1) := by decide +kernel
theorem d_len_6 : decode prog_15_method_54_code 6 = .ok (.invokevirtual 335, 3) := by decide +kernel
theorem d_len_9 : decode prog_15_method_54_code 9 = .ok (.ishr, 1) := by decide +kernel
theorem d_len_10 : decode prog_15_method_54_code 10 = .ok (.ireturn, 1) := by decide +kernel
theorem d_cod_0 : decode prog_15_method_152_code 0 = .ok (.getstatic 38, 3) := by decide +kernel
theorem d_cod_3 : decode prog_15_method_152_code 3 = .ok (.ifCond .eq 10, 3) := by decide +kernel
theorem d_cod_6 : decode prog_15_method_152_code 6 = .ok (.aload_n 0, 1) := by decide +kernel
theorem d_cod_7 : decode prog_15_method_152_code 7 = .ok (.getfield 15, 3) := by decide +kernel
theorem d_cod_10 : decode prog_15_method_152_code 10 = .ok (.goto 4, 3) := by decide +kernel
theorem d_cod_14 : decode prog_15_method_152_code 14 = .ok (.ireturn, 1) := by decide +kernel
theorem d_cha_0 : decode prog_15_method_56_code 0 = .ok (.aload_n 0, 1) := by decide +kernel
theorem d_cha_1 : decode prog_15_method_56_code 1 = .ok (.invokevirtual 492, 3) := by decide +kernel
theorem d_cha_4 : decode prog_15_method_56_code 4 = .ok (.ifCond .eq 12, 3) := by decide +kernel
theorem d_cha_7 : decode prog_15_method_56_code 7 = .ok (.aload_n 0, 1) := by decide +kernel
theorem d_cha_8 : decode prog_15_method_56_code 8 = .ok (.getfield 9, 3) := by decide +kernel
theorem d_cha_11 : decode prog_15_method_56_code 11 = .ok (.iload_n 1, 1) := by decide +kernel
theorem d_cha_12 : decode prog_15_method_56_code 12 = .ok (.invokestatic 495, 3) := by decide +kernel
theorem d_cha_15 : decode prog_15_method_56_code 15 = .ok (.ireturn, 1) := by decide +kernel
theorem d_lat_0 : decode prog_15_method_154_code 0 = .ok (.getstatic 38, 3) := by decide +kernel
theorem d_lat_3 : decode prog_15_method_154_code 3 = .ok (.ifCond .eq 14, 3) := by decide +kernel
theorem d_lat_6 : decode prog_15_method_154_code 6 = .ok (.aload_n 0, 1) := by decide +kernel
theorem d_lat_7 : decode prog_15_method_154_code 7 = .ok (.getfield 15, 3) := by decide +kernel
theorem d_lat_10 : decode prog_15_method_154_code 10 = .ok (.ifCond .ne 7, 3) := by decide +kernel
theorem d_lat_13 : decode prog_15_method_154_code 13 = .ok (.iconst 1, 1) := by decide +kernel
theorem d_lat_14 : decode prog_15_method_154_code 14 = .ok (.goto 4, 3) := by decide +kernel
theorem d_lat_18 : decode prog_15_method_154_code 18 = .ok (.ireturn, 1) := by decide +kernel
theorem d_lch_0 : decode prog_16_method_2_code 0 = .ok (.iload_n 1, 1) := by decide +kernel
theorem d_lch_1 : decode prog_16_method_2_code 1 = .ok (.aload_n 0, 1) := by decide +kernel
theorem d_lch_2 : decode prog_16_method_2_code 2 = .ok (.arraylength, 1) := by decide +kernel
theorem d_lch_3 : decode prog_16_method_2_code 3 = .ok (.invokestatic 9, 3) := by decide +kernel
theorem d_lch_6 : decode prog_16_method_2_code 6 = .ok (.aload_n 0, 1) := by decide +kernel
theorem d_lch_7 : decode prog_16_method_2_code 7 = .ok (.iload_n 1, 1) := by decide +kernel
theorem d_lch_8 : decode prog_16_method_2_code 8 = .ok (.baload, 1) := by decide +kernel
theorem d_lch_9 : decode prog_16_method_2_code 9 = .ok (.sipush 255, 3) := by decide +kernel
theorem d_lch_12 : decode prog_16_method_2_code 12 = .ok (.iand, 1) := by decide +kernel
theorem d_lch_13 : decode prog_16_method_2_code 13 = .ok (.i2c, 1) := by decide +kernel
theorem d_lch_14 : decode prog_16_method_2_code 14 = .ok (.ireturn, 1) := by decide +kernel
theorem d_chk_0 : decode prog_15_method_155_code 0 = .ok (.iload_n 0, 1) := by decide +kernel
theorem d_chk_1 : decode prog_15_method_155_code 1 = .ok (.iload_n 1, 1) := by decide +kernel
theorem d_chk_2 : decode prog_15_method_155_code 2 = .ok (.getstatic 1053, 3) := by decide +kernel
theorem d_chk_5 : decode prog_15_method_155_code 5 = .ok (.invokestatic 1059, 3) := by decide +kernel
theorem d_chk_8 : decode prog_15_method_155_code 8 = .ok (.pop, 1) := by decide +kernel
theorem d_chk_9 : decode prog_15_method_155_code 9 = .ok (.return_, 1) := by decide +kernel
theorem d_pre_0 : decode prog_19_method_11_code 0 = .ok (.iload_n 0, 1) := by decide +kernel
theorem d_pre_1 : decode prog_19_method_11_code 1 = .ok (.ifCond .lt 8, 3) := by decide +kernel
theorem d_pre_4 : decode prog_19_method_11_code 4 = .ok (.iload_n 0, 1) := by decide +kernel
theorem d_pre_5 : decode prog_19_method_11_code 5 = .ok (.iload_n 1, 1) := by decide +kernel
theorem d_pre_6 : decode prog_19_method_11_code 6 = .ok (.if_icmp .lt 10, 3) := by decide +kernel
theorem d_pre_16 : decode prog_19_method_11_code 16 = .ok (.iload_n 0, 1) := by decide +kernel
theorem d_pre_17 : decode prog_19_method_11_code 17 = .ok (.ireturn, 1) := by decide +kernel
theorem d_A_spells_0 : decode prog_5_method_4_code 0 = .ok (.iconst 0, 1) := by decide +kernel
theorem d_A_spells_1 : decode prog_5_method_4_code 1 = .ok (.istore_n 3, 1) := by decide +kernel
theorem d_A_spells_2 : decode prog_5_method_4_code 2 = .ok (.iload_n 3, 1) := by decide +kernel
theorem d_A_spells_3 : decode prog_5_method_4_code 3 = .ok (.aload_n 2, 1) := by decide +kernel
theorem d_A_spells_4 : decode prog_5_method_4_code 4 = .ok (.invokevirtual 23, 3) := by decide +kernel
theorem d_A_spells_7 : decode prog_5_method_4_code 7 = .ok (.if_icmp .ge 26, 3) := by decide +kernel
theorem d_A_spells_10 : decode prog_5_method_4_code 10 = .ok (.aload_n 0, 1) := by decide +kernel
theorem d_A_spells_11 : decode prog_5_method_4_code 11 = .ok (.iload_n 1, 1) := by decide +kernel
theorem d_A_spells_12 : decode prog_5_method_4_code 12 = .ok (.iload_n 3, 1) := by decide +kernel
theorem d_A_spells_13 : decode prog_5_method_4_code 13 = .ok (.iadd, 1) := by decide +kernel
theorem d_A_spells_14 : decode prog_5_method_4_code 14 = .ok (.invokevirtual 28, 3) := by decide +kernel
theorem d_A_spells_17 : decode prog_5_method_4_code 17 = .ok (.aload_n 2, 1) := by decide +kernel
theorem d_A_spells_18 : decode prog_5_method_4_code 18 = .ok (.iload_n 3, 1) := by decide +kernel
theorem d_A_spells_19 : decode prog_5_method_4_code 19 = .ok (.invokevirtual 32, 3) := by decide +kernel
theorem d_A_spells_22 : decode prog_5_method_4_code 22 = .ok (.if_icmp .eq 5, 3) := by decide +kernel
theorem d_A_spells_25 : decode prog_5_method_4_code 25 = .ok (.iconst 0, 1) := by decide +kernel
theorem d_A_spells_26 : decode prog_5_method_4_code 26 = .ok (.ireturn, 1) := by decide +kernel
theorem d_A_spells_27 : decode prog_5_method_4_code 27 = .ok (.iinc 3 1, 3) := by decide +kernel
theorem d_A_spells_30 : decode prog_5_method_4_code 30 = .ok (.goto (-28), 3) := by decide +kernel
theorem d_A_spells_33 : decode prog_5_method_4_code 33 = .ok (.iconst 1, 1) := by decide +kernel
theorem d_A_spells_34 : decode prog_5_method_4_code 34 = .ok (.ireturn, 1) := by decide +kernel
def y_sLen : MethodName := ⟨"java/lang/String", "length", "()I"⟩
theorem pl_sLen : y_sLen.cls ≠ "java/lang/invoke/MethodHandle" ∧ y_sLen.cls ≠ "java/lang/invoke/VarHandle" ∧ (parseMethodDescriptor y_sLen.desc).map (fun d => d.parameters.length) = some 0 := by decide +kernel
def y_sCod : MethodName := ⟨"java/lang/String", "coder", "()B"⟩
theorem pl_sCod : y_sCod.cls ≠ "java/lang/invoke/MethodHandle" ∧ y_sCod.cls ≠ "java/lang/invoke/VarHandle" ∧ (parseMethodDescriptor y_sCod.desc).map (fun d => d.parameters.length) = some 0 := by decide +kernel
def y_sCha : MethodName := ⟨"java/lang/String", "charAt", "(I)C"⟩
theorem pl_sCha : y_sCha.cls ≠ "java/lang/invoke/MethodHandle" ∧ y_sCha.cls ≠ "java/lang/invoke/VarHandle" ∧ (parseMethodDescriptor y_sCha.desc).map (fun d => d.parameters.length) = some 1 := by decide +kernel
def y_sLat : MethodName := ⟨"java/lang/String", "isLatin1", "()Z"⟩
theorem pl_sLat : y_sLat.cls ≠ "java/lang/invoke/MethodHandle" ∧ y_sLat.cls ≠ "java/lang/invoke/VarHandle" ∧ (parseMethodDescriptor y_sLat.desc).map (fun d => d.parameters.length) = some 0 := by decide +kernel
def y_sLch : MethodName := ⟨"java/lang/StringLatin1", "charAt", "([BI)C"⟩
theorem pl_sLch : y_sLch.cls ≠ "java/lang/invoke/MethodHandle" ∧ y_sLch.cls ≠ "java/lang/invoke/VarHandle" ∧ (parseMethodDescriptor y_sLch.desc).map (fun d => d.parameters.length) = some 2 := by decide +kernel
def y_sChk : MethodName := ⟨"java/lang/String", "checkIndex", "(II)V"⟩
theorem pl_sChk : y_sChk.cls ≠ "java/lang/invoke/MethodHandle" ∧ y_sChk.cls ≠ "java/lang/invoke/VarHandle" ∧ (parseMethodDescriptor y_sChk.desc).map (fun d => d.parameters.length) = some 2 := by decide +kernel
def y_sPre : MethodName := ⟨"jdk/internal/util/Preconditions", "checkIndex", "(IILjava/util/function/BiFunction;)I"⟩
theorem pl_sPre : y_sPre.cls ≠ "java/lang/invoke/MethodHandle" ∧ y_sPre.cls ≠ "java/lang/invoke/VarHandle" ∧ (parseMethodDescriptor y_sPre.desc).map (fun d => d.parameters.length) = some 3 := by decide +kernel
theorem js_cod : ∀ w ∈ zwV "java/lang/String" 335 y_sCod prog_15_method_152_code 1 (some .byte), w ∈ zT := List.forall_mem_cons.mpr ⟨jw_331, List.forall_mem_cons.mpr ⟨jw_332, List.forall_mem_cons.mpr ⟨jw_333, List.forall_mem_cons.mpr ⟨jw_iS, List.forall_mem_cons.mpr ⟨jw_334, fun _ h => absurd h List.not_mem_nil⟩⟩⟩⟩⟩
theorem js_lat : ∀ w ∈ zwV "java/lang/String" 492 y_sLat prog_15_method_154_code 1 (some .boolean), w ∈ zT := List.forall_mem_cons.mpr ⟨jw_342, List.forall_mem_cons.mpr ⟨jw_343, List.forall_mem_cons.mpr ⟨jw_344, List.forall_mem_cons.mpr ⟨jw_iS, List.forall_mem_cons.mpr ⟨jw_345, fun _ h => absurd h List.not_mem_nil⟩⟩⟩⟩⟩
theorem js_lch : ∀ w ∈ zwS "java/lang/String" 495 y_sLch prog_16_method_2_code 2 (some .char), w ∈ zT := List.forall_mem_cons.mpr ⟨jw_346, List.forall_mem_cons.mpr ⟨jw_347, List.forall_mem_cons.mpr ⟨jw_iL, List.forall_mem_cons.mpr ⟨jw_348, fun _ h => absurd h List.not_mem_nil⟩⟩⟩⟩
theorem js_chk : ∀ w ∈ zwS "java/lang/StringLatin1" 9 y_sChk prog_15_method_155_code 2 none, w ∈ zT := List.forall_mem_cons.mpr ⟨jw_349, List.forall_mem_cons.mpr ⟨jw_350, List.forall_mem_cons.mpr ⟨jw_iS, List.forall_mem_cons.mpr ⟨jw_351, fun _ h => absurd h List.not_mem_nil⟩⟩⟩⟩
theorem js_pre : ∀ w ∈ zwS "java/lang/String" 1059 y_sPre prog_19_method_11_code 3 (some .int), w ∈ zT := List.forall_mem_cons.mpr ⟨jw_354, List.forall_mem_cons.mpr ⟨jw_355, List.forall_mem_cons.mpr ⟨jw_iP, List.forall_mem_cons.mpr ⟨jw_356, fun _ h => absurd h List.not_mem_nil⟩⟩⟩⟩
theorem js_len : ∀ w ∈ zwV "RangeReckoner$Tape" 23 y_sLen prog_15_method_54_code 1 (some .int), w ∈ zT := List.forall_mem_cons.mpr ⟨jw_327, List.forall_mem_cons.mpr ⟨jw_328, List.forall_mem_cons.mpr ⟨jw_329, List.forall_mem_cons.mpr ⟨jw_iS, List.forall_mem_cons.mpr ⟨jw_330, fun _ h => absurd h List.not_mem_nil⟩⟩⟩⟩⟩
theorem js_cha : ∀ w ∈ zwV "RangeReckoner$Tape" 32 y_sCha prog_15_method_56_code 2 (some .char), w ∈ zT := List.forall_mem_cons.mpr ⟨jw_338, List.forall_mem_cons.mpr ⟨jw_339, List.forall_mem_cons.mpr ⟨jw_340, List.forall_mem_cons.mpr ⟨jw_iS, List.forall_mem_cons.mpr ⟨jw_341, fun _ h => absurd h List.not_mem_nil⟩⟩⟩⟩⟩
set_option maxRecDepth 100000 in
set_option maxHeartbeats 4000000 in
theorem s_cod {l : Launch} {E : zE} {G : (Nat → Prop) → State → Prop} (hG : xGG E G) {i : Nat} (hi : i < 4) {h : zH} {post : Int32 → zH → Prop} (hw : post 0 h) : Ct l xX E xcl xN zT G 0 0 y_sCod prog_15_method_152_code 1 (some .byte) [.ref (E.2.2.2.1 i)] h (zPi post) := by
  refine Ct.of (by decide) (Nat.le_of_ble_eq_true rfl) ?_
  intro p e s m below meth c A C hr
  have hs := hG.2 A s C.2.2.2.2.2.2
  obtain ⟨hO, hC, hV, hT⟩ := hs.1.1 i hi
  refine z_lv (lv2 := [some (.ref (E.2.2.2.1 i))]) rfl ?_
  refine z_gets C hs.2.2.2.2.2.1 jw_335 d_cod_0 ?_
  refine z_if_eq C (tgt := 13) d_cod_3 (by decide) (fun q => absurd q (by decide)) (fun _ => ?_)
  refine z_aload_n C (i := 0) d_cod_6 rfl rfl ?_
  refine z_getc C hC jw_976 d_cod_7 ?_
  refine z_goto C (tgt := 14) d_cod_10 (by decide) ?_
  exact z_zret C hr rfl d_cod_14 hw
set_option maxRecDepth 100000 in
set_option maxHeartbeats 4000000 in
theorem s_lat {l : Launch} {E : zE} {G : (Nat → Prop) → State → Prop} (hG : xGG E G) {i : Nat} (hi : i < 4) {h : zH} {post : Int32 → zH → Prop} (hw : post 1 h) : Ct l xX E xcl xN zT G 0 0 y_sLat prog_15_method_154_code 1 (some .boolean) [.ref (E.2.2.2.1 i)] h (zPi post) := by
  refine Ct.of (by decide) (Nat.le_of_ble_eq_true rfl) ?_
  intro p e s m below meth c A C hr
  have hs := hG.2 A s C.2.2.2.2.2.2
  obtain ⟨hO, hC, hV, hT⟩ := hs.1.1 i hi
  refine z_lv (lv2 := [some (.ref (E.2.2.2.1 i))]) rfl ?_
  refine z_gets C hs.2.2.2.2.2.1 jw_335 d_lat_0 ?_
  refine z_if_eq C (tgt := 17) d_lat_3 (by decide) (fun q => absurd q (by decide)) (fun _ => ?_)
  refine z_aload_n C (i := 0) d_lat_6 rfl rfl ?_
  refine z_getc C hC jw_976 d_lat_7 ?_
  refine z_if_ne C (tgt := 17) d_lat_10 (by decide) (fun q => absurd rfl q) (fun _ => ?_)
  refine z_iconst C (v := 1) d_lat_13 (by decide) ?_
  refine z_goto C (tgt := 18) d_lat_14 (by decide) ?_
  exact z_zret C hr rfl d_lat_18 hw
set_option maxRecDepth 100000 in
set_option maxHeartbeats 4000000 in
theorem s_len {l : Launch} {E : zE} {G : (Nat → Prop) → State → Prop} (hG : xGG E G) {i : Nat} (hi : i < 4) {h : zH} {post : Int32 → zH → Prop} (hw : post (Int32.ofNat (xSlen.getD i 0) >>> ((0 : Int32) &&& 31)) h) : Ct l xX E xcl xN zT G 1 20 y_sLen prog_15_method_54_code 1 (some .int) [.ref (E.2.2.2.1 i)] h (zPi post) := by
  refine Ct.of (by decide) (Nat.le_of_ble_eq_true rfl) ?_
  intro p e s m below meth c A C hr
  have hs := hG.2 A s C.2.2.2.2.2.2
  obtain ⟨hO, hC, hV, hT⟩ := hs.1.1 i hi
  refine z_lv (lv2 := [some (.ref (E.2.2.2.1 i))]) rfl ?_
  refine z_aload_n C (i := 0) d_len_0 rfl rfl ?_
  refine z_getc C hV jw_975 d_len_1 ?_
  refine z_tlen C hT d_len_4 ?_
  refine z_aload_n C (i := 0) d_len_5 rfl rfl ?_
  refine z_callRi ⟨xN_ok, hG.1⟩ zT_good C (s_cod hG hi (post := fun v h2 => v = 0 ∧ h2 = h) ⟨rfl, rfl⟩) js_cod (fun H locs hS => vk_recv hs.1 hi hS) (by decide) (by decide) pl_sCod rfl rfl (Nat.le_of_ble_eq_true rfl) d_len_6 (fun v h2 hq => ?_)
  obtain ⟨rfl, rfl⟩ := hq
  refine z_ishr C d_len_9 ?_
  exact z_iret C hr d_len_10 hw
set_option maxRecDepth 100000 in
set_option maxHeartbeats 4000000 in
theorem s_preN {l : Launch} {E : zE} {G : (Nat → Prop) → State → Prop} (hG : xGG E G) {a n : Int32} (h0 : ¬ a < 0) (h1 : a < n) {h : zH} {post : Int32 → zH → Prop} (hw : post a h) : Ct l xX E xcl xN zT G 0 0 y_sPre prog_19_method_11_code 3 (some .int) [.int a, .int n, .null] h (zPi post) := by
  refine Ct.of (by decide) (Nat.le_of_ble_eq_true rfl) ?_
  intro p e s m below meth c A C hr
  have hs := hG.2 A s C.2.2.2.2.2.2
  refine z_lv (lv2 := [some (.int a), some (.int n), some (.null)]) rfl ?_
  refine z_iload_n C (i := 0) d_pre_0 rfl rfl ?_
  refine z_if_lt C (tgt := 9) d_pre_1 (by decide) (fun q => absurd q h0) (fun _ => ?_)
  refine z_iload_n C (i := 0) d_pre_4 rfl rfl ?_
  refine z_iload_n C (i := 1) d_pre_5 rfl rfl ?_
  refine z_icmp_lt C (tgt := 16) d_pre_6 (by decide) (fun _ => ?_) (fun q => absurd h1 q)
  refine z_iload_n C (i := 0) d_pre_16 rfl rfl ?_
  exact z_iret C hr d_pre_17 hw
set_option maxRecDepth 100000 in
set_option maxHeartbeats 4000000 in
theorem s_preR {l : Launch} {E : zE} {G : (Nat → Prop) → State → Prop} (hG : xGG E G) {t : Nat} {a n : Int32} (h0 : ¬ a < 0) (h1 : a < n) {h : zH} {post : Int32 → zH → Prop} (hw : post a h) : Ct l xX E xcl xN zT G 0 0 y_sPre prog_19_method_11_code 3 (some .int) [.int a, .int n, .ref t] h (zPi post) := by
  refine Ct.of (by decide) (Nat.le_of_ble_eq_true rfl) ?_
  intro p e s m below meth c A C hr
  have hs := hG.2 A s C.2.2.2.2.2.2
  refine z_lv (lv2 := [some (.int a), some (.int n), some (.ref t)]) rfl ?_
  refine z_iload_n C (i := 0) d_pre_0 rfl rfl ?_
  refine z_if_lt C (tgt := 9) d_pre_1 (by decide) (fun q => absurd q h0) (fun _ => ?_)
  refine z_iload_n C (i := 0) d_pre_4 rfl rfl ?_
  refine z_iload_n C (i := 1) d_pre_5 rfl rfl ?_
  refine z_icmp_lt C (tgt := 16) d_pre_6 (by decide) (fun _ => ?_) (fun q => absurd h1 q)
  refine z_iload_n C (i := 0) d_pre_16 rfl rfl ?_
  exact z_iret C hr d_pre_17 hw
set_option maxRecDepth 100000 in
set_option maxHeartbeats 4000000 in
theorem s_chk {l : Launch} {E : zE} {G : (Nat → Prop) → State → Prop} (hG : xGG E G) {a n : Int32} (h0 : ¬ a < 0) (h1 : a < n) {h : zH} {post : zH → Prop} (hw : post h) : Ct l xX E xcl xN zT G 1 22 y_sChk prog_15_method_155_code 2 none [.int a, .int n] h (zPv post) := by
  refine Ct.of (by decide) (Nat.le_of_ble_eq_true rfl) ?_
  intro p e s m below meth c A C hr
  have hs := hG.2 A s C.2.2.2.2.2.2
  refine z_lv (lv2 := [some (.int a), some (.int n)]) rfl ?_
  refine z_iload_n C (i := 0) d_chk_0 rfl rfl ?_
  refine z_iload_n C (i := 1) d_chk_1 rfl rfl ?_
  rcases hs.2.2.2.2.2.2 with hz | ⟨t, hz⟩
  · refine z_gets C hz jw_352 d_chk_2 ?_
    refine z_callSi ⟨xN_ok, hG.1⟩ zT_good C (s_preN hG h0 h1 (post := fun v h2 => h2 = h) rfl) js_pre (by decide) (by decide) pl_sPre rfl rfl (Nat.le_of_ble_eq_true rfl) d_chk_5 (fun v h2 hq => ?_)
    subst hq
    refine z_pop C d_chk_8 rfl ?_
    exact z_vret C hr d_chk_9 hw
  · refine z_gets C hz jw_352 d_chk_2 ?_
    refine z_callSi ⟨xN_ok, hG.1⟩ zT_good C (s_preR hG h0 h1 (post := fun v h2 => h2 = h) rfl) js_pre (by decide) (by decide) pl_sPre rfl rfl (Nat.le_of_ble_eq_true rfl) d_chk_5 (fun v h2 hq => ?_)
    subst hq
    refine z_pop C d_chk_8 rfl ?_
    exact z_vret C hr d_chk_9 hw
/-- a text's sign -/
def fChar (i k : Nat) : Int32 := ((((xSbyt.getD i []).getD k 0) &&& 255).toUInt32 % 65536).toInt32
theorem zlt_ofNat {k n : Nat} (h : k < n) (hn : n < 2 ^ 31) : ¬ nI k < 0 ∧ nI k < Int32.ofNat n ∧ vp_in (nI k) n ∧ (nI k).toNatClampNeg = k := ⟨nI_pos (by omega), nI_lt h hn, vp_in_nI h hn, nI_clamp (by omega)⟩
set_option maxRecDepth 100000 in
set_option maxHeartbeats 4000000 in
theorem s_lch {l : Launch} {E : zE} {G : (Nat → Prop) → State → Prop} (hG : xGG E G) {i k : Nat} (hi : i < 4) (hk : k < xSlen.getD i 0) (hn : xSlen.getD i 0 < 2 ^ 31) {h : zH} {post : Int32 → zH → Prop} (hw : post (fChar i k) h) : Ct l xX E xcl xN zT G 2 43 y_sLch prog_16_method_2_code 2 (some .char) [.ref (E.2.2.2.2 i), .int (nI k)] h (zPi post) := by
  obtain ⟨a1, a2, a3, a4⟩ := zlt_ofNat hk hn
  refine Ct.of (by decide) (Nat.le_of_ble_eq_true rfl) ?_
  intro p e s m below meth c A C hr
  have hs := hG.2 A s C.2.2.2.2.2.2
  obtain ⟨hO, hC, hV, hT⟩ := hs.1.1 i hi
  refine z_lv (lv2 := [some (.ref (E.2.2.2.2 i)), some (.int (nI k))]) rfl ?_
  refine z_iload_n C (i := 1) d_lch_0 rfl rfl ?_
  refine z_aload_n C (i := 0) d_lch_1 rfl rfl ?_
  refine z_tlen C hT d_lch_2 ?_
  refine z_callSv ⟨xN_ok, hG.1⟩ zT_good C (s_chk hG a1 a2 (post := fun h2 => h2 = h) rfl) js_chk (by decide) (by decide) pl_sChk rfl rfl (Nat.le_of_ble_eq_true rfl) d_lch_3 (fun h2 hq => ?_)
  subst hq
  refine z_aload_n C (i := 0) d_lch_6 rfl rfl ?_
  refine z_iload_n C (i := 1) d_lch_7 rfl rfl ?_
  refine z_tb C (v := .int ((xSbyt.getD i []).getD k 0)) hT a3 (by rw [a4]) d_lch_8 ?_
  refine z_sipush C (v := 255) d_lch_9 (by decide) ?_
  refine z_iand C d_lch_12 ?_
  refine z_i2c C d_lch_13 ?_
  exact z_zret C hr (pk_nc _) d_lch_14 hw
set_option maxRecDepth 100000 in
set_option maxHeartbeats 4000000 in
theorem s_cha {l : Launch} {E : zE} {G : (Nat → Prop) → State → Prop} (hG : xGG E G) {i k : Nat} (hi : i < 4) (hk : k < xSlen.getD i 0) (hn : xSlen.getD i 0 < 2 ^ 31) {h : zH} {post : Int32 → zH → Prop} (hw : post (fChar i k) h) : Ct l xX E xcl xN zT G 3 64 y_sCha prog_15_method_56_code 2 (some .char) [.ref (E.2.2.2.1 i), .int (nI k)] h (zPi post) := by
  refine Ct.of (by decide) (Nat.le_of_ble_eq_true rfl) ?_
  intro p e s m below meth c A C hr
  have hs := hG.2 A s C.2.2.2.2.2.2
  obtain ⟨hO, hC, hV, hT⟩ := hs.1.1 i hi
  refine z_lv (lv2 := [some (.ref (E.2.2.2.1 i)), some (.int (nI k))]) rfl ?_
  refine z_aload_n C (i := 0) d_cha_0 rfl rfl ?_
  refine z_callRi ⟨xN_ok, hG.1⟩ zT_good C (s_lat hG hi (post := fun v h2 => v = 1 ∧ h2 = h) ⟨rfl, rfl⟩) js_lat (fun H locs hS => vk_recv hs.1 hi hS) (by decide) (by decide) pl_sLat rfl rfl (Nat.le_of_ble_eq_true rfl) d_cha_1 (fun v h2 hq => ?_)
  obtain ⟨rfl, rfl⟩ := hq
  refine z_if_eq C (tgt := 16) d_cha_4 (by decide) (fun q => absurd q (by decide)) (fun _ => ?_)
  refine z_aload_n C (i := 0) d_cha_7 rfl rfl ?_
  refine z_getc C hV jw_975 d_cha_8 ?_
  refine z_iload_n C (i := 1) d_cha_11 rfl rfl ?_
  refine z_callSi ⟨xN_ok, hG.1⟩ zT_good C (s_lch hG hi hk hn (post := fun v h3 => v = fChar i k ∧ h3 = h2) ⟨rfl, rfl⟩) js_lch (by decide) (by decide) pl_sLch rfl rfl (Nat.le_of_ble_eq_true rfl) d_cha_12 (fun v h3 hq => ?_)
  obtain ⟨rfl, rfl⟩ := hq
  exact z_zret C hr (pk_nc _) d_cha_15 hw
/-- RangeReckoner.at, Tape.signAt -/
def fAt (f : Nat → Int32) (n : Nat) (i : Int32) : Int32 := if i < 0 then 0 else if Int32.ofNat n ≤ i then 0 else f i.toNatClampNeg
def fSign (h : zH) (i : Int32) : Int32 := if i < 0 then -1 else if h.1 5 1 ≤ i then -1 else fAt (h.1 6) 400 i
theorem in_of {i : Int32} {n : Nat} (hn : n < 2 ^ 31) (h0 : ¬ i < 0) (h1 : ¬ Int32.ofNat n ≤ i) : vp_in i n := by
  obtain ⟨j, hj, rfl, -⟩ := pk_mu (L := n) h0 h1 hn
  exact vp_in_nI hj hn
theorem sp_R_at {k n : Nat} {i : Int32} {h : zH} {post : Int32 → zH → Prop} (hr : xRow k n) (hn : n < 2 ^ 31) (hp : post (fAt (h.1 k) n i) h) : wp_R_at k n i h post := by
  unfold wp_R_at b_R_at_16 b_R_at_17
  unfold fAt at hp
  refine ⟨hr, fun q => ?_, fun q => ⟨fun q2 => ?_, fun q2 => ⟨in_of hn q q2, ?_⟩⟩⟩
  · rwa [if_pos q] at hp
  · rwa [if_neg q, if_pos q2] at hp
  · rwa [if_neg q, if_neg q2] at hp
theorem xRow_c (k n : Nat) (h1 : k < 60 := by decide) (h2 : xX.2.1 k = (1, n) := by rfl) : xRow k n := ⟨h1, h2⟩
theorem sp_A_signAt {i : Int32} {h : zH} {post : Int32 → zH → Prop} (hp : post (fSign h i) h) : wp_A_signAt i h post := by
  unfold wp_A_signAt b_A_signAt_23 b_A_signAt_24
  unfold fSign at hp
  refine ⟨fun q => ?_, fun q => ⟨fun q2 => ?_, fun q2 => sp_R_at (xRow_c 6 400) (by decide) ?_⟩⟩
  · rwa [if_pos q] at hp
  · rwa [if_neg q, if_pos q2] at hp
  · rwa [if_neg q, if_neg q2] at hp
def fSpells (h : zH) (l1 : Int32) : List Int32 → Int32 → Int32
  | [], _ => 1
  | b :: t, j => if fSign h (l1 + j) = b then fSpells h l1 t (j + 1) else 0
def wp_A_spells (l1 : Int32) (i : Nat) (h : zH) (post : Int32 → zH → Prop) : Prop := i < 3 ∧ post (fSpells h l1 (xSbyt.getD i []) 0) h
theorem xSp : ∀ i, i < 3 → xSlen.getD i 0 = 3 ∧ (xSbyt.getD i []).length = 3 ∧ ∀ k, k < 3 → fChar i k = (xSbyt.getD i []).getD k 0 := by decide +kernel
set_option maxRecDepth 100000 in
set_option maxHeartbeats 4000000 in
theorem w_A_spells {l : Launch} {E : zE} {G : (Nat → Prop) → State → Prop} (hG : xGG E G) {p : Program} {e : Env} {s : State} {m : MethodId} {args : Array Value} {below : List Frame} {meth : Method} {c : Code} {A : Nat → Prop} {post : Int32 → zH → Prop} (C : zCx p s m args meth c E G A 4 90 prog_5_method_4_code 4 cn_A) (hr : meth.sig.returnType = (some .boolean)) {i : Nat} (hi : i < 3) (l1 : Int32) (h : zH) :
    ∀ (t : List Int32) (k : Nat), k + t.length = 3 → (xSbyt.getD i []).drop k = t → post (fSpells h l1 t (nI k)) h → zGo p l e s m args below meth c E A 4 90 4 (zPi post) h 2 [some (.ref (E.2.2.1 5)), some (.int l1), some (.ref (E.2.2.2.1 i)), some (.int (nI k))] [] := by
  have hs := hG.2 A s C.2.2.2.2.2.2
  obtain ⟨e1, e2, e3⟩ := xSp i hi
  intro t
  induction t with
  | nil =>
    intro k hk hd hw
    have hk3 : k = 3 := by simpa using hk
    subst hk3
    refine z_iload_n C (i := 3) d_A_spells_2 rfl rfl ?_
    refine z_aload_n C (i := 2) d_A_spells_3 rfl rfl ?_
    refine z_callRi ⟨xN_ok, hG.1⟩ zT_good C (s_len hG (by omega) (post := fun v h2 => v = 3 ∧ h2 = h) ⟨by rw [e1]; decide, rfl⟩) js_len (fun H locs hS => vk_recv hs.1 (by omega) hS) (by decide) (by decide) pl_sLen rfl rfl (Nat.le_of_ble_eq_true rfl) d_A_spells_4 (fun v h2 hq => ?_)
    obtain ⟨rfl, rfl⟩ := hq
    refine z_icmp_ge C (tgt := 33) d_A_spells_7 (by decide) (fun _ => ?_) (fun q => absurd (by decide) q)
    refine z_iconst C (v := 1) d_A_spells_33 (by decide) ?_
    exact z_zret C hr rfl d_A_spells_34 hw
  | cons b t ih =>
    intro k hk hd hw
    simp only [List.length_cons] at hk
    have hk3 : k < 3 := by omega
    obtain ⟨a1, a2, a3, a4⟩ := zlt_ofNat (k := k) (n := 3) hk3 (by decide)
    have hb : (xSbyt.getD i []).getD k 0 = b := by
      have : (xSbyt.getD i [])[k]? = some b := by
        have := congrArg (fun l => l[0]?) hd
        simpa using this
      rw [List.getD_eq_getElem?_getD, this]; rfl
    have ht : (xSbyt.getD i []).drop (k + 1) = t := by
      have := congrArg List.tail hd
      simpa using this
    refine z_iload_n C (i := 3) d_A_spells_2 rfl rfl ?_
    refine z_aload_n C (i := 2) d_A_spells_3 rfl rfl ?_
    refine z_callRi ⟨xN_ok, hG.1⟩ zT_good C (s_len hG (by omega) (post := fun v h2 => v = 3 ∧ h2 = h) ⟨by rw [e1]; decide, rfl⟩) js_len (fun H locs hS => vk_recv hs.1 (by omega) hS) (by decide) (by decide) pl_sLen rfl rfl (Nat.le_of_ble_eq_true rfl) d_A_spells_4 (fun v h2 hq => ?_)
    obtain ⟨rfl, rfl⟩ := hq
    refine z_icmp_ge C (tgt := 33) d_A_spells_7 (by decide) (fun q => absurd q (nI_ge (a := k) (b := 3) hk3 (by decide))) (fun _ => ?_)
    refine z_aload_n C (i := 0) d_A_spells_10 rfl rfl ?_
    refine z_iload_n C (i := 1) d_A_spells_11 rfl rfl ?_
    refine z_iload_n C (i := 3) d_A_spells_12 rfl rfl ?_
    refine z_iadd C d_A_spells_13 ?_
    refine z_callVi ⟨xN_ok, hG.1⟩ zT_good C (t_A_signAt hG (sp_A_signAt (post := fun v h3 => v = fSign h2 (l1 + nI k) ∧ h3 = h2) ⟨rfl, rfl⟩)) (List.forall_mem_cons.mpr ⟨jw_337, wn_A_signAt⟩) (by decide) rfl rfl (by decide) (by decide) pl_A_signAt rfl rfl (Nat.le_of_ble_eq_true rfl) d_A_spells_14 (fun v h3 hq => ?_)
    obtain ⟨rfl, rfl⟩ := hq
    refine z_aload_n C (i := 2) d_A_spells_17 rfl rfl ?_
    refine z_iload_n C (i := 3) d_A_spells_18 rfl rfl ?_
    refine z_callRi ⟨xN_ok, hG.1⟩ zT_good C (s_cha hG (by omega) (by rw [e1]; exact hk3) (by rw [e1]; decide) (post := fun v h4 => v = b ∧ h4 = h3) ⟨by rw [e3 k hk3, hb], rfl⟩) js_cha (fun H locs hS => vk_recv hs.1 (by omega) hS) (by decide) (by decide) pl_sCha rfl rfl (Nat.le_of_ble_eq_true rfl) d_A_spells_19 (fun v h4 hq => ?_)
    obtain ⟨rfl, rfl⟩ := hq
    refine z_icmp_eq C (tgt := 27) d_A_spells_22 (by decide) (fun q => ?_) (fun q => ?_)
    · refine z_iinc C (v := nI (k + 1)) d_A_spells_27 rfl (nI_1 k) (by decide) rfl ?_
      refine z_goto C (tgt := 2) d_A_spells_30 (by decide) ?_
      refine z_le (lv2 := [some (.ref (E.2.2.1 5)), some (.int l1), some (.ref (E.2.2.2.1 i)), some (.int (nI (k + 1)))]) ⟨rfl, ⟨rfl, ⟨rfl, ⟨rfl, trivial⟩⟩⟩⟩ ?_
      refine ih (k + 1) (by omega) ht ?_
      rw [fSpells, if_pos q] at hw
      rw [← nI_1 k]
      exact hw
    · refine z_iconst C (v := 0) d_A_spells_25 (by decide) ?_
      rw [fSpells, if_neg q] at hw
      exact z_zret C hr rfl d_A_spells_26 hw
set_option maxRecDepth 100000 in
set_option maxHeartbeats 4000000 in
theorem t_A_spells {l : Launch} {E : zE} {G : (Nat → Prop) → State → Prop} (hG : xGG E G) {l1 : Int32} {i : Nat} {h : zH} {post : Int32 → zH → Prop} (hw : wp_A_spells l1 i h post) : Ct l xX E xcl xN zT G 4 90 y_A_spells prog_5_method_4_code 4 (some .boolean) [.ref (E.2.2.1 5), .int l1, .ref (E.2.2.2.1 i)] h (zPi post) := by
  obtain ⟨hi, hw⟩ := hw
  refine Ct.of (by decide) (Nat.le_of_ble_eq_true rfl) ?_
  intro p e s m below meth c A C hr
  refine z_lv (lv2 := [some (.ref (E.2.2.1 5)), some (.int l1), some (.ref (E.2.2.2.1 i)), none]) rfl ?_
  refine z_iconst C (v := 0) d_A_spells_0 (by decide) ?_
  refine z_istore_n C (i := 3) d_A_spells_1 rfl (by decide) rfl ?_
  refine z_le (lv2 := [some (.ref (E.2.2.1 5)), some (.int l1), some (.ref (E.2.2.2.1 i)), some (.int (nI 0))]) ⟨rfl, ⟨rfl, ⟨rfl, ⟨rfl, trivial⟩⟩⟩⟩ ?_
  exact w_A_spells hG C hr hi l1 h _ 0 (by simpa using (xSp i hi).2.1) rfl hw
