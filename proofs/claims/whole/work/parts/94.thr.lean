/-! value throws: nothing that was there has changed, one cell of six slots has come -/
/-- a reader's contract: the heap stays -/
def Cp (l : Launch) (E : zE) (G : (Nat → Prop) → State → Prop) (y : MethodName) (cc : ByteArray) (nL : Nat) (ret : Option FieldType) (av : List Value) (h : zH) (r : Value) : Prop :=
  ∀ sz : Nat, Met l y (Cond.code y cc nL ret :: zT) (zrm 0 0) (va_Pc av (zB xX E xcl xN G h sz)) (fun _ st o t => o = .returned (some r) ∧ t.heap = st.heap) 0 0 (fun _ => False)
set_option maxRecDepth 100000 in
set_option maxHeartbeats 4000000 in
theorem x_T_has {l : Launch} {E : zE} {G : (Nat → Prop) → State → Prop} {k : Nat} {l1 : Int32} {h : zH} (hk : xTm k) (hn : l1 < 0 ∨ h.1 k 10 ≤ l1 ∨ 100 ≤ l1) : Cp l E G y_T_has prog_6_method_3_code 2 (some .boolean) [.ref (E.2.2.1 k), .int l1] h (.int 0) := by
  intro sz
  refine Met.ofW (cc := prog_6_method_3_code) (maxL := 2) (ret := some .boolean) (by decide) rfl ?_
  intro p e s m args below meth c s₁ B hml hv
  obtain ⟨rfl, hsz, hP, hK, hD0, hN, hGG⟩ := hv
  subst hsz
  have hts := atoms_spec (ws := Cond.code y_T_has prog_6_method_3_code 2 (some .boolean) :: zT) B.pre
  have hown : s.vm.findClass y_T_has.cls = some m.cls := findClass_of_methodNamed B.named
  have hz : ∀ w ∈ zT, w.before _ s = true := fun w hw => hts w (List.mem_cons_of_mem _ hw)
  have hl := lv_entry [.ref (E.2.2.1 k), .int l1] (n := 2) (Nat.le_of_ble_eq_true rfl)
  rw [lg_entry_eq]
  generalize (lg_sl [.ref (E.2.2.1 k), .int l1] ++ List.replicate (2 - (lg_sl [.ref (E.2.2.1 k), .int l1]).length) Slot.unset).toArray = ls at hl ⊢
  have hL : zLH ls 2 [some (.ref (E.2.2.1 k)), some (.int l1)] := zlv_in hl
  have ret0 : W p l e (headSpec (Cond.code y_T_has prog_6_method_3_code 2 (some .boolean) :: zT) (zrm 0 0)).room s m [.ref (E.2.2.1 k), .int l1].toArray below meth c s.heap [] 0 0 (MQ below (fun _ st o t => o = .returned (some (.int 0)) ∧ t.heap = st.heap) [.ref (E.2.2.1 k), .int l1].toArray s 0 0 (fun _ => False)) (F0 m 22 ls []) := by
    refine lv_iconst B.exec B.bytes d_T_has_22 (v := 0) (by decide) ?_
    exact W.zret B.exec B.bytes B.returns (by decide) (fun t ht hW => ⟨rfl, ht⟩) (fun q hq => by cases hq) d_T_has_23 B.notSynchronized
  refine lv_iload_n B.exec B.bytes d_T_has_0 rfl (hL.2.2 1 _ rfl) ?_
  refine lv_if_lt B.exec B.bytes (tgt := 22) d_T_has_1 (by decide) (fun _ => ret0) (fun q => ?_)
  refine lv_iload_n B.exec B.bytes d_T_has_4 rfl (hL.2.2 1 _ rfl) ?_
  refine lv_aload_n B.exec B.bytes d_T_has_5 rfl (hL.2.2 0 _ rfl) ?_
  refine va_get (D := E.1) (C := cn_T) (T := cf_T) (N := 11) (own := y_T_has.cls) B.exec B.bytes hz in_T hown hK hP k (by rw [zw_at (xTm_l0 hk), ze_obj (xTm_0 hk)]) rfl 10 (by decide) (hz _ fl_T_43) (fun _ h9 => h9) (zf_at rfl) d_T_has_6 ?_
  refine lv_icmp_ge B.exec B.bytes (tgt := 22) d_T_has_9 (by decide) (fun _ => ret0) (fun q2 => ?_)
  refine lv_iload_n B.exec B.bytes d_T_has_12 rfl (hL.2.2 1 _ rfl) ?_
  refine lv_bipush B.exec B.bytes d_T_has_13 (v := 100) (by decide) ?_
  refine lv_icmp_ge B.exec B.bytes (tgt := 22) d_T_has_15 (by decide) (fun _ => ret0) (fun q3 => ?_)
  exfalso
  rcases hn with h1 | h1 | h1
  · exact q h1
  · exact q2 h1
  · exact q3 h1
