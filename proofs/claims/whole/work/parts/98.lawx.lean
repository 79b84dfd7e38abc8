theorem va_at_lt {D : va_G} {cl : List vw_C} {q : Nat × va_E} {H : Heap} (h : va_at D cl q H) : q.1 < H.size := by
  obtain ⟨a, e⟩ := q
  cases e with
  | inl x => exact (Array.getElem?_eq_some_iff.mp (show H[a]? = some _ from h)).1
  | inr o =>
    obtain ⟨r, h1, cell, q1, -⟩ := h
    exact (Array.getElem?_eq_some_iff.mp q1).1
theorem sb_kept {s : State} {U : State} {k n : Nat} (h : s.sameButNew U [] k n) {q : Nat} (hq : q < s.heap.size) : U.heap[q]? = s.heap[q]? := by
  obtain ⟨-, -, -, -, -, h6⟩ := h
  obtain ⟨c', h1, h2, h3, h4⟩ := h6 q _ (Array.getElem?_eq_getElem hq)
  rw [h1, Array.getElem?_eq_getElem hq, h2]
  congr 1
  have : c'.slots = (s.heap[q]).slots := by
    apply Array.ext_getElem?
    intro i
    exact h4 i (fun z => by cases z)
  rw [this]
set_option maxRecDepth 100000 in
set_option maxHeartbeats 4000000 in
theorem x_L_value {l : Launch} (hl : l.stackTraces = false) {E : zE} {G : (Nat → Prop) → State → Prop} (hG : xGG E G) (hO : ∀ (A : Nat → Prop) (U : State), G A U → xO A U) {l1 : Int32} {h : zH} (hk : xTm (h.2.2 0 3)) (hn : l1 < 0 ∨ h.1 (h.2.2 0 3) 10 ≤ l1 ∨ 100 ≤ l1) {post : Int32 → zH → Prop} (hw : post 1 h) : Cw l E G 7 125 1 6 y_L_value method_3_code 4 (some .int) hh_L [.ref (E.2.2.1 0), .int l1, .ref (E.2.2.1 59)] h (zPi post) := by
  intro sz
  refine va_MetW (cc := method_3_code) (maxL := 4) (ret := some .int) (hh := hh_L) (by decide) rfl ?_
  intro p e s m args below meth c s₁ B hml hv
  obtain ⟨rfl, hsz, hP, hK, hD0, hN, hGG⟩ := hv
  subst hsz
  have hts := atoms_spec (ws := Cond.codeWith y_L_value method_3_code 4 (some .int) hh_L :: zT) B.pre
  have hown : s.vm.findClass y_L_value.cls = some m.cls := findClass_of_methodNamed B.named
  have hz : ∀ w ∈ zT, w.before _ s = true := fun w hw => hts w (List.mem_cons_of_mem _ hw)
  have hD : va_D (zA xX E s.heap.size) (zw xX E h) := hD0.weaken (fun k q hq _ => by
    have hk : k < xX.1 := by
      have := (List.getElem?_eq_some_iff.mp hq).1
      simpa [zw] using this
    rw [zw_at hk] at hq
    cases hq
    exact Or.inl ⟨k, hk, rfl⟩)
  have C : ZC p (krm 7 125 1 6) s m [.ref (E.2.2.1 0), .int l1, .ref (E.2.2.1 59)].toArray meth c method_3_code 4 zT y_L_value.cls E xcl xN G (zA xX E s.heap.size) xX 0 0 s.heap := ⟨⟨B.exec, B.bytes, hml, hown, hz⟩, hK, hN, B.notSynchronized, ⟨Nat.zero_le _, Nat.zero_le _⟩, fun q hq => Or.inr hq, hGG⟩
  have hl4 := lv_entry [.ref (E.2.2.1 0), .int l1, .ref (E.2.2.1 59)] (n := 4) (Nat.le_of_ble_eq_true rfl)
  rw [lg_entry_eq]
  generalize (lg_sl [.ref (E.2.2.1 0), .int l1, .ref (E.2.2.1 59)] ++ List.replicate (4 - (lg_sl [.ref (E.2.2.1 0), .int l1, .ref (E.2.2.1 59)]).length) Slot.unset).toArray = ls at hl4 ⊢
  have hL : zLH ls 4 [some (.ref (E.2.2.1 0)), some (.int l1), some (.ref (E.2.2.1 59)), none] := zlv_in hl4
  refine lv_aload_n B.exec B.bytes d_Lv_0 rfl (hL.2.2 2 _ rfl) ?_
  refine lv_iconst B.exec B.bytes d_Lv_1 (v := 0) (by decide) ?_
  refine lv_aload_n B.exec B.bytes d_Lv_2 rfl (hL.2.2 0 _ rfl) ?_
  refine lv_iload_n B.exec B.bytes d_Lv_3 rfl (hL.2.2 1 _ rfl) ?_
  intro T hT X
  have w_ml := hz _ (lw_7 _ (List.mem_of_getElem? (i := 0) rfl))
  have w_im := hz _ (lw_7 _ (List.mem_of_getElem? (i := 1) rfl))
  have w_se := hz _ (lw_7 _ (List.mem_of_getElem? (i := 2) rfl))
  have w_ini := hz _ (lw_7 _ (List.mem_of_getElem? (i := 3) rfl))
  have w_co := hz _ (lw_7 _ (List.mem_of_getElem? (i := 4) rfl))
  obtain ⟨mk, methM, hnamed, hmethM, hstM, habM⟩ := Cond.instanceMethod_spec w_im
  obtain ⟨methM', cM, hmethM', hcM, hbM, hlM, hrM, hlkM, heM, hsigM⟩ := Cond.code_spec hnamed w_co
  cases hmethM.symm.trans hmethM'
  obtain ⟨c2, r2, m2, q1, q2, q3, q4, kP, hkP, hkPi⟩ := Cond.selects_spec w_se
  obtain ⟨cellB, hcell, hobj, hcls⟩ := va_recv hK hP (ci := 0) (q0 := 0) rfl (by rw [zw_at (by decide), ze_obj (show xX.2.1 0 = (0, 0) from rfl)])
  cases hcls.symm.trans q1
  cases (State.methodFound?_of_named hnamed ⟨pl_R_value.1, pl_R_value.2.1⟩).symm.trans q2
  cases hnamed.symm.trans q3
  have hselP : selectMethod e.platform s.vm cellB.cls mk = .method mk := by rw [Launch.admits_selectMethod X.admits]; exact q4
  obtain ⟨vm₁, X₁, hstep₁⟩ := X.invokevirtual B.exec hown w_ml hnamed hmethM hstM hkP hkPi ⟨pl_R_value.1, pl_R_value.2.1⟩ (a := E.2.2.1 0) (cell := cellB) (by rw [hT]; exact hcell)
    (fun z h => by rw [h] at hobj; cases hobj) hselP hmethM habM hkP hkPi (g := F0 m 4 ls [.int l1, .ref (E.2.2.1 0), .int 0, .ref (E.2.2.1 59)]) rfl (argsL := [.int l1]) (rest := [.int 0, .ref (E.2.2.1 59)]) (z_lens pl_R_value.2.2 _ hsigM) rfl (by rw [B.bytes]; exact d_Lv_4)
  have hn1 : (T.setVm vm₁).methodNamed? y_R_value = some mk := X₁.named hnamed
  have hpay := zT_good.pay hz (lw_7 _ (List.mem_of_getElem? (i := 4) rfl))
  obtain ⟨kY, hkY, -⟩ := className_of_methodNamed hn1
  have hinitY : kY.init = .initialized := Cond.initialized_spec (findClass_of_methodNamed hn1) hkY (word_at (a' := #[]) X₁.warmed (zT_good _ (lw_7 _ (List.mem_of_getElem? (i := 3) rfl))) w_ini)
  have hmY : (T.setVm vm₁).vm.method? mk = some methM := by rw [X₁.warmed.alike.method?]; exact hmethM
  have happ : (headSpec (Cond.code y_R_value prog_1_method_7_code 2 (some .long) :: zT) (krm 6 100 1 6)).appliesLoose y_R_value e.platform ((T.setVm vm₁).calling (F0 m 4 ls [.int 0, .ref (E.2.2.1 59)]) mk [.ref (E.2.2.1 0), .int l1].toArray) = true :=
    Spec.appliesLoose_calling (g := F0 m 4 ls [.int 0, .ref (E.2.2.1 59)]) X₁.here (by rw [B.bytes]; exact d_Lv_4) hn1 hkY hinitY
      (X₁.room_calling (g := F0 m 4 ls [.int 0, .ref (E.2.2.1 59)]) (R' := krm 6 100 1 6) (by rw [hml]; exact hL.1) hmY hcM (by decide) (by rw [hlM]; simp [krm, Value.category, JFrame.monitorRoom, headSpec]) (by decide) (by decide)) (atoms_intro fun w hw => hpay w hw _ _ X₁.warmed)
  obtain ⟨mid, hmid⟩ := X₁.here.above
  have hfr : ((T.setVm vm₁).setTop (F0 m 4 ls [.int 0, .ref (E.2.2.1 59)])).frames = (.java (F0 m 4 ls [.int 0, .ref (E.2.2.1 59)]) :: mid) ++ below := by rw [State.frames_setTop' _ X₁.here.top, hmid]; rfl
  have hpre := z_pre (av := [.ref (E.2.2.1 0), .int l1]) ⟨xN_ok, hG.1⟩ C va_S.rf hP hD
  have hPc : va_Pc [.ref (E.2.2.1 0), .int l1] (zB xX E xcl xN G h s.heap.size) [.ref (E.2.2.1 0), .int l1].toArray ((T.setVm vm₁).calling (F0 m 4 ls [.int 0, .ref (E.2.2.1 59)]) mk [.ref (E.2.2.1 0), .int l1].toArray) :=
    hpre.1 _ (T.setVm vm₁) _ _ (hpre.2 (T.setVm vm₁) hT X₁.warmed)
  obtain ⟨o, s₂, hsteps, -, hend, hq⟩ := Steps.callFree (x_R_value hl hG hO hk hn s.heap.size) p X₁.admits X₁.cas X₁.clock (acts := []) hfr happ hPc trivial
  rw [State.frames_setTop' _ X₁.here.top, X₁.tail] at hend
  obtain ⟨x, ce, rfl, hW, hsame, hce, hcl, hvm, hfit⟩ := hq
  obtain ⟨T', X', hWW, hsm, ht⟩ := X₁.outOfThrown (g := F0 m 4 ls [.int 0, .ref (E.2.2.1 59)]) rfl hend hW hsame
  have hT' : T'.heap = s₂.heap := by rw [ht, Stand.throwing_heap]
  obtain ⟨m9, meth9, c9, hn9, hm9, hc9, -, -, hx9, -, -, -⟩ := Cond.codeWith_spec (hts _ List.mem_cons_self)
  cases B.named.symm.trans hn9
  cases B.method.symm.trans hm9
  cases X.code.symm.trans hc9
  obtain ⟨xe, hxe, hx4⟩ := List.map_eq_singleton_iff.mp hx9
  obtain ⟨x1, x2, x3, x4⟩ : xe.startPc = 0 ∧ xe.endPc = 8 ∧ xe.handlerPc = 11 ∧ xe.catchType = 13 := by simpa using hx4
  obtain ⟨vm2, X2, st2⟩ := cc_catch X' (own := cn_L) (K := xIO) (index := 13) (x := x) (cell := ce) (g := F0 m 4 ls [.int 0, .ref (E.2.2.1 59)]) rfl hxe (by simp [covers, x1, x2]) (by rw [x4]; decide) x4 hown (hz _ lw_13) (by rw [hT']; exact hce) hvm
    (by have := hcl; rw [← X₁.warmed.alike.findClass]; exact this) (by rw [← X₁.warmed.alike.assignable]; exact hfit)
  have hkp : ∀ q : Nat, q < s.heap.size → T'.heap[q]? = s.heap[q]? := fun q hq => by
    have t1 : s₂.heap[q]? = T.heap[q]? := sb_kept hsame (q := q) (show q < T.heap.size by rw [hT]; exact hq)
    rw [hT', t1, hT]
  have hge : s.heap.size ≤ T'.heap.size := by
    have t1 : T.heap.size ≤ s₂.heap.size := hsame.2.1
    rw [hT', ← hT]
    exact t1
  have hS2 : va_S (zA xX E s.heap.size) s.heap T'.heap ([] ++ []) := ⟨hge, fun q h1 _ => hkp q h1, fun q hq => by cases hq⟩
  have hP2 : va_P E.1 xcl (zw xX E h) T'.heap := hP.kept (fun k q hq => hkp _ (va_at_lt (hP k q hq)))
  have nx : W p l e (krm 7 125 1 6) s m [.ref (E.2.2.1 0), .int l1, .ref (E.2.2.1 59)].toArray below meth c T'.heap ([] ++ []) (0 + 1) (0 + 6) (MQ below (zQ xX E xcl (zA xX E s.heap.size) (zPi post)) [.ref (E.2.2.1 0), .int l1, .ref (E.2.2.1 59)].toArray s 1 6 (zA xX E s.heap.size)) (F0 m 11 ls [.ref x]) := by
    refine lv_astore_n B.exec B.bytes d_Lv_11 rfl hL.has (by decide) rfl (fun ls2 _ => ?_)
    refine lv_iconst B.exec B.bytes d_Lv_12 (v := 1) (by decide) ?_
    exact W.iret B.exec B.bytes B.returns (fun t ht hW => ⟨⟨_, h, rfl, ⟨1, rfl, hw⟩, by rw [ht]; exact hP2⟩, hS2.F ht⟩) hS2.2.2 d_Lv_13 B.notSynchronized
  obtain ⟨t2, a1, b1⟩ := nx (T'.setVm vm2) rfl X2
  refine ⟨t2, hstep₁ t2 (fun acts => ?_), b1⟩
  rw [doInvoke_state]
  refine hsteps.trans ?_
  rw [ht]
  refine st2 t2 ?_
  rw [x3]
  exact a1
