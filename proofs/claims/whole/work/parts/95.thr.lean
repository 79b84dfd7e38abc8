/-- what is left behind a throw: one new cell, an IndexOutOfBoundsException -/
def QX (l : Launch) : Array Value → State → Outcome → State → Prop := fun _ st o t => ∃ (x : Addr) (ce : Cell), o = .threw x ∧ st.WarmedH t.vm ∧ st.sameButNew ({ t with vm := st.vm } : State) [] 1 6 ∧ t.heap[x]? = some ce ∧ st.vm.findClass xIO = some ce.cls ∧ ce.vm = .none ∧ st.vm.assignable ce.cls ce.cls = true
def Cx (l : Launch) (E : zE) (G : (Nat → Prop) → State → Prop) (d w : Nat) (y : MethodName) (cc : ByteArray) (nL : Nat) (ret : Option FieldType) (av : List Value) (h : zH) : Prop :=
  ∀ sz : Nat, MetFree l y (headSpec (Cond.code y cc nL ret :: zT) (krm d w 1 6)) (va_Pc av (zB xX E xcl xN G h sz)) (fun _ _ _ _ _ => True) (QX l)
set_option maxRecDepth 100000 in
set_option maxHeartbeats 4000000 in
theorem x_R_value {l : Launch} (hl : l.stackTraces = false) {E : zE} {G : (Nat → Prop) → State → Prop} (hG : xGG E G) (hO : ∀ (A : Nat → Prop) (U : State), G A U → xO A U) {l1 : Int32} {h : zH} (hk : xTm (h.2.2 0 3)) (hn : l1 < 0 ∨ h.1 (h.2.2 0 3) 10 ≤ l1 ∨ 100 ≤ l1) : Cx l E G 6 100 y_R_value prog_1_method_7_code 2 (some .long) [.ref (E.2.2.1 0), .int l1] h := by
  intro sz
  refine MetFree.of_bodyS (code := prog_1_method_7_code) (maxLocals := 2) (ret := some .long) (by decide) ?_ ?_
  · intro args s m h hn
    obtain ⟨meth, c, h1, h2, h3, h4, h5, h6, -, -⟩ := Cond.code_spec hn (atoms_spec (ws := Cond.code y_R_value prog_1_method_7_code 2 (some .long) :: zT) h _ List.mem_cons_self)
    exact ⟨meth, c, h1, h2, h3, h4, h5, h6⟩
  intro p e s m args below meth c s₁ B hml hv _
  obtain ⟨rfl, hsz, hP, hK, hD0, hN, hGG⟩ := hv
  subst hsz
  have hts := atoms_spec (ws := Cond.code y_R_value prog_1_method_7_code 2 (some .long) :: zT) B.pre
  have hown : s.vm.findClass y_R_value.cls = some m.cls := findClass_of_methodNamed B.named
  have hz : ∀ w ∈ zT, w.before _ s = true := fun w hw => hts w (List.mem_cons_of_mem _ hw)
  have htr : e.platform.stackTraces = false := by rw [B.admits.platform]; exact hl
  have hat := (hO _ _ hGG).atoms hz
  have hS := hG.2 _ _ hGG
  have hh0 : s₁.heap = s.heap := by rw [B.state]; rfl
  have hD : va_D (zA xX E s.heap.size) (zw xX E h) := hD0.weaken (fun k q hq _ => by
    have hk : k < xX.1 := by
      have := (List.getElem?_eq_some_iff.mp hq).1
      simpa [zw] using this
    rw [zw_at hk] at hq
    cases hq
    exact Or.inl ⟨k, hk, rfl⟩)
  have C : ZC p (krm 6 100 1 6) s m [.ref (E.2.2.1 0), .int l1].toArray meth c prog_1_method_7_code 2 zT y_R_value.cls E xcl xN G (zA xX E s.heap.size) xX 0 0 s.heap := ⟨⟨B.exec, B.bytes, hml, hown, hz⟩, hK, hN, B.notSynchronized, ⟨Nat.zero_le _, Nat.zero_le _⟩, fun q hq => Or.inr hq, hGG⟩
  have go : W p l e (krm 6 100 1 6) s m [.ref (E.2.2.1 0), .int l1].toArray below meth c s.heap [] 0 0 (fun t => ∃ o, t.status = .running ∧ Ended t below o ∧ QX l [.ref (E.2.2.1 0), .int l1].toArray s o t) (entryFrame m [.ref (E.2.2.1 0), .int l1].toArray 2) := by
    have hl := lv_entry [.ref (E.2.2.1 0), .int l1] (n := 2) (Nat.le_of_ble_eq_true rfl)
    rw [lg_entry_eq]
    generalize (lg_sl [.ref (E.2.2.1 0), .int l1] ++ List.replicate (2 - (lg_sl [.ref (E.2.2.1 0), .int l1]).length) Slot.unset).toArray = ls at hl ⊢
    have hL : zLH ls 2 [some (.ref (E.2.2.1 0)), some (.int l1)] := zlv_in hl
    refine lv_aload_n B.exec B.bytes d_R_value_0 rfl (hL.2.2 0 _ rfl) ?_
    refine va_get (D := E.1) (C := cn_R) (T := cf_R) (N := 5) (own := y_R_value.cls) B.exec B.bytes hz in_R hown hK hP 0 (by rw [zw_at (by decide), ze_obj (show xX.2.1 0 = (0, 0) from rfl)]) rfl 3 (by decide) (hz _ fl_R_26) (fun _ h9 => h9) (zf_at rfl) d_R_value_1 ?_
    refine lv_iload_n B.exec B.bytes d_R_value_4 rfl (hL.2.2 1 _ rfl) ?_
    have hpre := z_pre (av := (.ref (E.2.2.1 (h.2.2 0 3)) :: [.int l1])) ⟨xN_ok, hG.1⟩ C va_S.rf hP hD
    have hrc := va_recv C.2.1 hP (ci := 3) (q0 := h.2.2 0 3) rfl (by rw [zw_at (xTm_l0 hk), ze_obj (xTm_0 hk)])
    have hpv : PreV s s.heap y_T_has.cls (E.2.2.1 (h.2.2 0 3)) (va_Pc (.ref (E.2.2.1 (h.2.2 0 3)) :: [.int l1]) (zB xX E xcl xN G h s.heap.size)) [.int l1] := ⟨hpre.1, hrc, hpre.2⟩
    intro T hT X
    have hrun := va_runVN (C := y_T_has.cls) (As := [.int l1]) (rest := []) (H := s.heap) (locs := []) (cells := 0) (slots := 0) (e := e) (below := below) (meth := meth) (index := 64) (g := F0 m 5 ls [.int l1, .ref (E.2.2.1 (h.2.2 0 3))]) C.1 (x_T_has (l := l) (G := G) hk hn s.heap.size) ⟨⟨⟨rfl, rfl, by decide, by decide, (zT_good.pay hz (wn_T_has _ (List.mem_of_getElem? (i := 3) rfl))), List.mem_cons_self⟩, hz _ (wn_T_has _ (List.mem_of_getElem? (i := 3) rfl)), hz _ (wn_T_has _ (List.mem_of_getElem? (i := 2) rfl)), ⟨pl_T_has.1, pl_T_has.2.1⟩, z_lens pl_T_has.2.2, va_Nw.use rfl (hN _ nl_R_64)⟩, hz _ (wn_T_has _ (List.mem_of_getElem? (i := 0) rfl)), hz _ (wn_T_has _ (List.mem_of_getElem? (i := 1) rfl))⟩ hpv rfl rfl hL.1 rfl (Nat.zero_le _) d_R_value_5 ⟨by decide, by decide⟩ T hT X
    obtain ⟨v, st₀, t, T', L, h0, X', hL2, e1, e2, ⟨hv, hq⟩, st⟩ := hrun
    have hLn : L = [] := List.eq_nil_iff_forall_not_mem.mpr (fun q hq => hL2 q hq)
    subst hLn
    cases hv
    have hT' : T'.heap = s.heap := by rw [e1, hq, h0]
    have next : W p l e (krm 6 100 1 6) s m [.ref (E.2.2.1 0), .int l1].toArray below meth c s.heap [] 0 0 (fun t => ∃ o, t.status = .running ∧ Ended t below o ∧ QX l [.ref (E.2.2.1 0), .int l1].toArray s o t) (F0 m 8 ls [.int 0]) := by
      refine lv_if_ne B.exec B.bytes (tgt := 21) d_R_value_8 (by decide) (fun q => absurd rfl q) (fun _ => ?_)
      intro T1 hT1 X1
      obtain ⟨vm₁, cX, kX, hfX, hkX, -, -, X2, st1⟩ := X1.newCold B.exec (own := y_R_value.cls) (C := xIO) (index := 81) (n := 6) hown (hz _ vw_cl) (hz _ vw_is) (hz _ vw_it)
        (g := F0 m 11 ls []) rfl (by rw [B.bytes]; exact d_R_value_11) (by decide) (by decide)
      have nx : W p l e (krm 6 100 1 6) s m [.ref (E.2.2.1 0), .int l1].toArray below meth c (((T1.setVm vm₁).pushCell { cls := cX, slots := kX.instanceTypes.map defaultValue, vm := .none }).heap) [] 1 6 (fun t => ∃ o, t.status = .running ∧ Ended t below o ∧ QX l [.ref (E.2.2.1 0), .int l1].toArray s o t) (F0 m 14 ls [.ref T1.heap.size]) := by
        refine lv_dup B.exec B.bytes d_R_value_14 rfl ?_
        refine va_ldcS B.exec B.bytes hown (tx := "there is no such part") hS.2.2.2.2.1 d_R_value_15 ?_
        intro T3 hT3 X3
        have hcell : T3.heap[T1.heap.size]? = some (freshCell cX kX) := by rw [hT3]; exact State.heap_pushCell_size _ _
        obtain ⟨U, hsteps, hrun, hend, hW, hsame, ce, hce, K⟩ := X3.ctorThrowS B.exec htr (own := y_R_value.cls) (cls := xIO) (names := xUp) (ic := 85) hown (by decide +kernel) (by decide +kernel)
          hat (fun y hy => by cases hy) hfX hkX hcell (by rw [hT1]; exact Nat.le_refl _) (msg := .ref (E.2.2.2.1 3)) rfl
          (g := F0 m 17 ls [.ref (E.2.2.2.1 3), .ref T1.heap.size, .ref T1.heap.size]) rfl (by rw [hml]; exact hL.1) rfl rfl (rest := []) rfl
          (by rw [B.bytes]; exact d_R_value_17) (by rw [B.bytes]; exact d_R_value_20) (covers_of_empty (B.noHandlers (hts _ List.mem_cons_self)) _) (by decide) (by simp [krm, xUp, Value.category, JFrame.monitorRoom]) B.notSynchronized
        exact ⟨U, hsteps, _, hrun, hend, T1.heap.size, ce, rfl, hW, hsame, hce, K.cls, K.vm, K.self⟩
      obtain ⟨t2, a1, b1⟩ := nx _ rfl X2
      exact ⟨t2, st1 t2 a1, b1⟩
    obtain ⟨t2, a1, b1⟩ := next T' hT' X'
    exact ⟨t2, st t2 a1, b1⟩
  obtain ⟨t, a1, o, b1, b2, b3⟩ := go s₁ hh0 (Stand.of_body B)
  exact ⟨t, o, a1, b1, b2, b3⟩
