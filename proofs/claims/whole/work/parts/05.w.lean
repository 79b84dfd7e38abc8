theorem d_A_appendWord_0 : decode prog_5_method_6_code 0 = .ok (.iload_n 2, 1) := by decide +kernel
theorem d_A_appendWord_1 : decode prog_5_method_6_code 1 = .ok (.istore_n 3, 1) := by decide +kernel
theorem d_A_appendWord_2 : decode prog_5_method_6_code 2 = .ok (.bipush (24), 2) := by decide +kernel
theorem d_A_appendWord_4 : decode prog_5_method_6_code 4 = .ok (.istore 4, 2) := by decide +kernel
theorem d_A_appendWord_6 : decode prog_5_method_6_code 6 = .ok (.iload 4, 2) := by decide +kernel
theorem d_A_appendWord_8 : decode prog_5_method_6_code 8 = .ok (.ifCond .lt (65), 3) := by decide +kernel
theorem d_A_appendWord_11 : decode prog_5_method_6_code 11 = .ok (.iload_n 1, 1) := by decide +kernel
theorem d_A_appendWord_12 : decode prog_5_method_6_code 12 = .ok (.iload 4, 2) := by decide +kernel
theorem d_A_appendWord_14 : decode prog_5_method_6_code 14 = .ok (.iushr, 1) := by decide +kernel
theorem d_A_appendWord_15 : decode prog_5_method_6_code 15 = .ok (.sipush (255), 3) := by decide +kernel
theorem d_A_appendWord_18 : decode prog_5_method_6_code 18 = .ok (.iand, 1) := by decide +kernel
theorem d_A_appendWord_19 : decode prog_5_method_6_code 19 = .ok (.istore 5, 2) := by decide +kernel
theorem d_A_appendWord_21 : decode prog_5_method_6_code 21 = .ok (.iload 5, 2) := by decide +kernel
theorem d_A_appendWord_23 : decode prog_5_method_6_code 23 = .ok (.ifCond .ne (6), 3) := by decide +kernel
theorem d_A_appendWord_26 : decode prog_5_method_6_code 26 = .ok (.goto (41), 3) := by decide +kernel
theorem d_A_appendWord_29 : decode prog_5_method_6_code 29 = .ok (.iload 5, 2) := by decide +kernel
theorem d_A_appendWord_31 : decode prog_5_method_6_code 31 = .ok (.bipush (32), 2) := by decide +kernel
theorem d_A_appendWord_33 : decode prog_5_method_6_code 33 = .ok (.if_icmp .lt (21), 3) := by decide +kernel
theorem d_A_appendWord_36 : decode prog_5_method_6_code 36 = .ok (.iload 5, 2) := by decide +kernel
theorem d_A_appendWord_38 : decode prog_5_method_6_code 38 = .ok (.bipush (126), 2) := by decide +kernel
theorem d_A_appendWord_40 : decode prog_5_method_6_code 40 = .ok (.if_icmp .gt (14), 3) := by decide +kernel
theorem d_A_appendWord_43 : decode prog_5_method_6_code 43 = .ok (.iload_n 3, 1) := by decide +kernel
theorem d_A_appendWord_44 : decode prog_5_method_6_code 44 = .ok (.ifCond .lt (10), 3) := by decide +kernel
theorem d_A_appendWord_47 : decode prog_5_method_6_code 47 = .ok (.iload_n 3, 1) := by decide +kernel
theorem d_A_appendWord_48 : decode prog_5_method_6_code 48 = .ok (.sipush (400), 3) := by decide +kernel
theorem d_A_appendWord_51 : decode prog_5_method_6_code 51 = .ok (.if_icmp .lt (5), 3) := by decide +kernel
theorem d_A_appendWord_54 : decode prog_5_method_6_code 54 = .ok (.iconst (-1), 1) := by decide +kernel
theorem d_A_appendWord_55 : decode prog_5_method_6_code 55 = .ok (.ireturn, 1) := by decide +kernel
theorem d_A_appendWord_56 : decode prog_5_method_6_code 56 = .ok (.aload_n 0, 1) := by decide +kernel
theorem d_A_appendWord_57 : decode prog_5_method_6_code 57 = .ok (.getfield 9, 3) := by decide +kernel
theorem d_A_appendWord_60 : decode prog_5_method_6_code 60 = .ok (.iload_n 3, 1) := by decide +kernel
theorem d_A_appendWord_61 : decode prog_5_method_6_code 61 = .ok (.iload 5, 2) := by decide +kernel
theorem d_A_appendWord_63 : decode prog_5_method_6_code 63 = .ok (.iastore, 1) := by decide +kernel
theorem d_A_appendWord_64 : decode prog_5_method_6_code 64 = .ok (.iinc 3 (1), 3) := by decide +kernel
theorem d_A_appendWord_67 : decode prog_5_method_6_code 67 = .ok (.iinc 4 (-8), 3) := by decide +kernel
theorem d_A_appendWord_70 : decode prog_5_method_6_code 70 = .ok (.goto (-64), 3) := by decide +kernel
theorem d_A_appendWord_73 : decode prog_5_method_6_code 73 = .ok (.iload_n 3, 1) := by decide +kernel
theorem d_A_appendWord_74 : decode prog_5_method_6_code 74 = .ok (.ireturn, 1) := by decide +kernel
def b_A_appendWord_67 (post : Int32 → zH → Prop) (rc : Int32 → Int32 → Int32 → zH → Prop) (l1 : Int32) (l3 : Int32) (l4 : Int32) (h : zH) : Prop := rc (l1) (l3) ((l4 + (-8))) h
def b_A_appendWord_54 (post : Int32 → zH → Prop) (h : zH) : Prop := post (-1) h
def b_A_appendWord_6 (post : Int32 → zH → Prop) : Nat → Int32 → Int32 → Int32 → zH → Prop
  | 0, _, _, _, _ => False
  | n + 1, l1, l3, l4, h => (fun rc : Int32 → Int32 → Int32 → zH → Prop => ((l4 < 0 → post l3 h) ∧ (¬ l4 < 0 → ((¬ (((l1).toUInt32 >>> ((l4 : Int32).toUInt32 &&& Int32.toUInt32 31)).toInt32 &&& 255) = 0 → (((((l1).toUInt32 >>> ((l4 : Int32).toUInt32 &&& Int32.toUInt32 31)).toInt32 &&& 255) < 32 → b_A_appendWord_54 post  h) ∧ (¬ (((l1).toUInt32 >>> ((l4 : Int32).toUInt32 &&& Int32.toUInt32 31)).toInt32 &&& 255) < 32 → ((126 < (((l1).toUInt32 >>> ((l4 : Int32).toUInt32 &&& Int32.toUInt32 31)).toInt32 &&& 255) → b_A_appendWord_54 post  h) ∧ (¬ 126 < (((l1).toUInt32 >>> ((l4 : Int32).toUInt32 &&& Int32.toUInt32 31)).toInt32 &&& 255) → ((l3 < 0 → b_A_appendWord_54 post  h) ∧ (¬ l3 < 0 → ((l3 < 400 → (vp_in l3 400 ∧ ∀ h1 : zH, h1 = zi h 6 (l3 : Int32).toNatClampNeg (((l1).toUInt32 >>> ((l4 : Int32).toUInt32 &&& Int32.toUInt32 31)).toInt32 &&& 255) → b_A_appendWord_67 post rc (l1) ((l3 + 1)) (l4) h1)) ∧ (¬ l3 < 400 → b_A_appendWord_54 post  h))))))))) ∧ ((((l1).toUInt32 >>> ((l4 : Int32).toUInt32 &&& Int32.toUInt32 31)).toInt32 &&& 255) = 0 → b_A_appendWord_67 post rc (l1) (l3) (l4) h))))) (b_A_appendWord_6 post n)
def wp_A_appendWord (l1 : Int32) (l2 : Int32) (h : zH) (post : Int32 → zH → Prop) : Prop := (∃ n : Nat, b_A_appendWord_6 post n (l1) (l2) (24) h)
set_option maxRecDepth 100000 in
set_option maxHeartbeats 4000000 in
theorem w_A_appendWord_67 {l : Launch} {E : zE} {G : (Nat → Prop) → State → Prop} {p : Program} {e : Env} {s : State} {m : MethodId} {args : Array Value} {below : List Frame} {meth : Method} {c : Code} {A : Nat → Prop} {post : Int32 → zH → Prop} (hG : xGG E G) (C : zCx p s m args meth c E G A 0 0 prog_5_method_6_code 6 cn_A) (hr : meth.sig.returnType = (some .int)) {rc : Int32 → Int32 → Int32 → zH → Prop} (hrc : ∀ (l1 : Int32) (l3 : Int32) (l4 : Int32) (h : zH), rc l1 l3 l4 h → zGo p l e s m args below meth c E A 0 0 6 (zPi post) h 6 [some (.ref (E.2.2.1 5)), some (.int l1), none, some (.int l3), some (.int l4), none] []) (l1 : Int32) (l3 : Int32) (l4 : Int32) (h : zH) (hw : b_A_appendWord_67 post rc l1 l3 l4 h) : zGo p l e s m args below meth c E A 0 0 6 (zPi post) h 67 [some (.ref (E.2.2.1 5)), some (.int l1), none, some (.int l3), some (.int l4), none] [] := by
  unfold b_A_appendWord_67 at hw
  refine z_iinc C (v := l4 + (-8)) d_A_appendWord_67 rfl rfl (by decide) rfl ?_
  refine z_goto C (tgt := 6) d_A_appendWord_70 (by decide) ?_
  refine z_le (lv2 := [some (.ref (E.2.2.1 5)), some (.int l1), none, some (.int l3), some (.int (l4 + (-8))), none]) (⟨rfl, ⟨rfl, ⟨rfl, ⟨rfl, trivial⟩⟩⟩⟩) ?_
  exact hrc _ _ _ _ hw
set_option maxRecDepth 100000 in
set_option maxHeartbeats 4000000 in
theorem w_A_appendWord_54 {l : Launch} {E : zE} {G : (Nat → Prop) → State → Prop} {p : Program} {e : Env} {s : State} {m : MethodId} {args : Array Value} {below : List Frame} {meth : Method} {c : Code} {A : Nat → Prop} {post : Int32 → zH → Prop} (hG : xGG E G) (C : zCx p s m args meth c E G A 0 0 prog_5_method_6_code 6 cn_A) (hr : meth.sig.returnType = (some .int))  (h : zH) (hw : b_A_appendWord_54 post  h) : zGo p l e s m args below meth c E A 0 0 6 (zPi post) h 54 [none, none, none, none, none, none] [] := by
  unfold b_A_appendWord_54 at hw
  refine z_iconst C (v := (-1)) d_A_appendWord_54 (by decide) ?_
  exact z_iret C hr d_A_appendWord_55 hw
set_option maxRecDepth 100000 in
set_option maxHeartbeats 4000000 in
theorem w_A_appendWord_6 {l : Launch} {E : zE} {G : (Nat → Prop) → State → Prop} {p : Program} {e : Env} {s : State} {m : MethodId} {args : Array Value} {below : List Frame} {meth : Method} {c : Code} {A : Nat → Prop} {post : Int32 → zH → Prop} (hG : xGG E G) (C : zCx p s m args meth c E G A 0 0 prog_5_method_6_code 6 cn_A) (hr : meth.sig.returnType = (some .int)) : ∀ (n : Nat) (l1 : Int32) (l3 : Int32) (l4 : Int32) (h : zH), b_A_appendWord_6 post n l1 l3 l4 h → zGo p l e s m args below meth c E A 0 0 6 (zPi post) h 6 [some (.ref (E.2.2.1 5)), some (.int l1), none, some (.int l3), some (.int l4), none] [] := by
  intro n
  induction n with
  | zero => intro l1 l3 l4 h hw; exact False.elim hw
  | succ n hrc =>
    intro l1 l3 l4 h hw
    unfold b_A_appendWord_6 at hw
    refine z_iload C d_A_appendWord_6 rfl ?_
    refine z_if_lt C (tgt := 73) d_A_appendWord_8 (by decide) (fun q => ?_) (fun q => ?_)
    · replace hw := hw.1 q
      refine z_iload_n C (i := 3) d_A_appendWord_73 rfl rfl ?_
      exact z_iret C hr d_A_appendWord_74 hw
    · replace hw := hw.2 q
      refine z_iload_n C (i := 1) d_A_appendWord_11 rfl rfl ?_
      refine z_iload C d_A_appendWord_12 rfl ?_
      refine z_iushr C d_A_appendWord_14 ?_
      refine z_sipush C (v := 255) d_A_appendWord_15 (by decide) ?_
      refine z_iand C d_A_appendWord_18 ?_
      refine z_istore C d_A_appendWord_19 (by decide) rfl ?_
      refine z_iload C d_A_appendWord_21 rfl ?_
      refine z_if_ne C (tgt := 29) d_A_appendWord_23 (by decide) (fun q => ?_) (fun q => ?_)
      · replace hw := hw.1 q
        refine z_iload C d_A_appendWord_29 rfl ?_
        refine z_bipush C (v := 32) d_A_appendWord_31 (by decide) ?_
        refine z_icmp_lt C (tgt := 54) d_A_appendWord_33 (by decide) (fun q => ?_) (fun q => ?_)
        · replace hw := hw.1 q
          refine z_le (lv2 := [none, none, none, none, none, none]) (trivial) ?_
          exact w_A_appendWord_54 hG C hr  _ hw
        · replace hw := hw.2 q
          refine z_iload C d_A_appendWord_36 rfl ?_
          refine z_bipush C (v := 126) d_A_appendWord_38 (by decide) ?_
          refine z_icmp_gt C (tgt := 54) d_A_appendWord_40 (by decide) (fun q => ?_) (fun q => ?_)
          · replace hw := hw.1 q
            refine z_le (lv2 := [none, none, none, none, none, none]) (trivial) ?_
            exact w_A_appendWord_54 hG C hr  _ hw
          · replace hw := hw.2 q
            refine z_iload_n C (i := 3) d_A_appendWord_43 rfl rfl ?_
            refine z_if_lt C (tgt := 54) d_A_appendWord_44 (by decide) (fun q => ?_) (fun q => ?_)
            · replace hw := hw.1 q
              refine z_le (lv2 := [none, none, none, none, none, none]) (trivial) ?_
              exact w_A_appendWord_54 hG C hr  _ hw
            · replace hw := hw.2 q
              refine z_iload_n C (i := 3) d_A_appendWord_47 rfl rfl ?_
              refine z_sipush C (v := 400) d_A_appendWord_48 (by decide) ?_
              refine z_icmp_lt C (tgt := 56) d_A_appendWord_51 (by decide) (fun q => ?_) (fun q => ?_)
              · replace hw := hw.1 q
                refine z_aload_n C (i := 0) d_A_appendWord_56 rfl rfl ?_
                refine z_getS C (ci := 2) (j := 0) (F := cf_A) (by decide) rfl rfl in_A (by decide) fl_A_9 rfl d_A_appendWord_57 ?_
                refine z_iload_n C (i := 3) d_A_appendWord_60 rfl rfl ?_
                refine z_iload C d_A_appendWord_61 rfl ?_
                refine z_iast C (by decide) rfl hw.1 d_A_appendWord_63 (fun h1 eh1 => ?_)
                replace hw := hw.2 h1 eh1
                refine z_iinc C (v := l3 + 1) d_A_appendWord_64 rfl rfl (by decide) rfl ?_
                refine z_le (lv2 := [some (.ref (E.2.2.1 5)), some (.int l1), none, some (.int (l3 + 1)), some (.int l4), none]) (⟨rfl, ⟨rfl, ⟨rfl, ⟨rfl, trivial⟩⟩⟩⟩) ?_
                exact w_A_appendWord_67 hG C hr hrc _ _ _ _ hw
              · replace hw := hw.2 q
                refine z_le (lv2 := [none, none, none, none, none, none]) (trivial) ?_
                exact w_A_appendWord_54 hG C hr  _ hw
      · replace hw := hw.2 q
        refine z_goto C (tgt := 67) d_A_appendWord_26 (by decide) ?_
        refine z_le (lv2 := [some (.ref (E.2.2.1 5)), some (.int l1), none, some (.int l3), some (.int l4), none]) (⟨rfl, ⟨rfl, ⟨rfl, ⟨rfl, trivial⟩⟩⟩⟩) ?_
        exact w_A_appendWord_67 hG C hr hrc _ _ _ _ hw
set_option maxRecDepth 100000 in
set_option maxHeartbeats 4000000 in
theorem t_A_appendWord {l : Launch} {E : zE} {G : (Nat → Prop) → State → Prop} (hG : xGG E G) {l1 : Int32} {l2 : Int32} {h : zH} {post : Int32 → zH → Prop} (hw : wp_A_appendWord l1 l2 h post) : Ct l xX E xcl xN zT G 0 0 y_A_appendWord prog_5_method_6_code 6 (some .int) [.ref (E.2.2.1 5), .int l1, .int l2] h (zPi post) := by
  unfold wp_A_appendWord at hw
  refine Ct.of (by decide) (Nat.le_of_ble_eq_true rfl) ?_
  intro p e s m below meth c A C hr
  refine z_lv (lv2 := [some (.ref (E.2.2.1 5)), some (.int l1), some (.int l2), none, none, none]) rfl ?_
  refine z_iload_n C (i := 2) d_A_appendWord_0 rfl rfl ?_
  refine z_istore_n C (i := 3) d_A_appendWord_1 rfl (by decide) rfl ?_
  refine z_bipush C (v := 24) d_A_appendWord_2 (by decide) ?_
  refine z_istore C d_A_appendWord_4 (by decide) rfl ?_
  refine z_le (lv2 := [some (.ref (E.2.2.1 5)), some (.int l1), none, some (.int l2), some (.int 24), none]) (⟨rfl, ⟨rfl, ⟨rfl, ⟨rfl, trivial⟩⟩⟩⟩) ?_
  obtain ⟨n, hw⟩ := hw
  exact w_A_appendWord_6 hG C hr n _ _ _ _ hw
theorem d_A_append_0 : decode prog_5_method_5_code 0 = .ok (.aload_n 0, 1) := by decide +kernel
theorem d_A_append_1 : decode prog_5_method_5_code 1 = .ok (.iload_n 1, 1) := by decide +kernel
theorem d_A_append_2 : decode prog_5_method_5_code 2 = .ok (.aload_n 0, 1) := by decide +kernel
theorem d_A_append_3 : decode prog_5_method_5_code 3 = .ok (.getfield 15, 3) := by decide +kernel
theorem d_A_append_6 : decode prog_5_method_5_code 6 = .ok (.invokevirtual 36, 3) := by decide +kernel
theorem d_A_append_9 : decode prog_5_method_5_code 9 = .ok (.istore_n 3, 1) := by decide +kernel
theorem d_A_append_10 : decode prog_5_method_5_code 10 = .ok (.iload_n 3, 1) := by decide +kernel
theorem d_A_append_11 : decode prog_5_method_5_code 11 = .ok (.iconst (-1), 1) := by decide +kernel
theorem d_A_append_12 : decode prog_5_method_5_code 12 = .ok (.if_icmp .eq (10), 3) := by decide +kernel
theorem d_A_append_15 : decode prog_5_method_5_code 15 = .ok (.aload_n 0, 1) := by decide +kernel
theorem d_A_append_16 : decode prog_5_method_5_code 16 = .ok (.iload_n 2, 1) := by decide +kernel
theorem d_A_append_17 : decode prog_5_method_5_code 17 = .ok (.iload_n 3, 1) := by decide +kernel
theorem d_A_append_18 : decode prog_5_method_5_code 18 = .ok (.invokevirtual 36, 3) := by decide +kernel
theorem d_A_append_21 : decode prog_5_method_5_code 21 = .ok (.istore_n 3, 1) := by decide +kernel
theorem d_A_append_22 : decode prog_5_method_5_code 22 = .ok (.iload_n 3, 1) := by decide +kernel
theorem d_A_append_23 : decode prog_5_method_5_code 23 = .ok (.iconst (-1), 1) := by decide +kernel
theorem d_A_append_24 : decode prog_5_method_5_code 24 = .ok (.if_icmp .eq (8), 3) := by decide +kernel
theorem d_A_append_27 : decode prog_5_method_5_code 27 = .ok (.aload_n 0, 1) := by decide +kernel
theorem d_A_append_28 : decode prog_5_method_5_code 28 = .ok (.iload_n 3, 1) := by decide +kernel
theorem d_A_append_29 : decode prog_5_method_5_code 29 = .ok (.putfield 15, 3) := by decide +kernel
theorem d_A_append_32 : decode prog_5_method_5_code 32 = .ok (.iload_n 3, 1) := by decide +kernel
theorem d_A_append_33 : decode prog_5_method_5_code 33 = .ok (.iconst (-1), 1) := by decide +kernel
theorem d_A_append_34 : decode prog_5_method_5_code 34 = .ok (.if_icmp .eq (7), 3) := by decide +kernel
theorem d_A_append_37 : decode prog_5_method_5_code 37 = .ok (.iconst 1, 1) := by decide +kernel
theorem d_A_append_38 : decode prog_5_method_5_code 38 = .ok (.goto (4), 3) := by decide +kernel
theorem d_A_append_41 : decode prog_5_method_5_code 41 = .ok (.iconst 0, 1) := by decide +kernel
theorem d_A_append_42 : decode prog_5_method_5_code 42 = .ok (.ireturn, 1) := by decide +kernel
def b_A_append_42 (post : Int32 → zH → Prop) (s0 : Int32) (h : zH) : Prop := (narrow .boolean (.int s0) = .int s0 ∧ post s0 h)
def b_A_append_32 (post : Int32 → zH → Prop) (l3 : Int32) (h : zH) : Prop := ((l3 = (-1) → b_A_append_42 post (0) h) ∧ (¬ l3 = (-1) → b_A_append_42 post (1) h))
def b_A_append_22 (post : Int32 → zH → Prop) (l3 : Int32) (h : zH) : Prop := ((l3 = (-1) → b_A_append_32 post (l3) h) ∧ (¬ l3 = (-1) → (∀ h1 : zH, h1 = zi h 5 1 l3 → b_A_append_32 post (l3) h1)))
def wp_A_append (l1 : Int32) (l2 : Int32) (h : zH) (post : Int32 → zH → Prop) : Prop := wp_A_appendWord (l1) ((h.1 5 1)) h (fun (r2 : Int32) (h3 : zH) => ((r2 = (-1) → b_A_append_22 post (r2) h3) ∧ (¬ r2 = (-1) → wp_A_appendWord (l2) (r2) h3 (fun (r4 : Int32) (h5 : zH) => b_A_append_22 post (r4) h5))))
set_option maxRecDepth 100000 in
set_option maxHeartbeats 4000000 in
theorem w_A_append_42 {l : Launch} {E : zE} {G : (Nat → Prop) → State → Prop} {p : Program} {e : Env} {s : State} {m : MethodId} {args : Array Value} {below : List Frame} {meth : Method} {c : Code} {A : Nat → Prop} {post : Int32 → zH → Prop} (hG : xGG E G) (C : zCx p s m args meth c E G A 1 25 prog_5_method_5_code 4 cn_A) (hr : meth.sig.returnType = (some .boolean))  (s0 : Int32) (h : zH) (hw : b_A_append_42 post s0 h) : zGo p l e s m args below meth c E A 1 25 4 (zPi post) h 42 [none, none, none, none] [.int s0] := by
  unfold b_A_append_42 at hw
  exact z_zret C hr hw.1 d_A_append_42 hw.2
set_option maxRecDepth 100000 in
set_option maxHeartbeats 4000000 in
theorem w_A_append_32 {l : Launch} {E : zE} {G : (Nat → Prop) → State → Prop} {p : Program} {e : Env} {s : State} {m : MethodId} {args : Array Value} {below : List Frame} {meth : Method} {c : Code} {A : Nat → Prop} {post : Int32 → zH → Prop} (hG : xGG E G) (C : zCx p s m args meth c E G A 1 25 prog_5_method_5_code 4 cn_A) (hr : meth.sig.returnType = (some .boolean))  (l3 : Int32) (h : zH) (hw : b_A_append_32 post l3 h) : zGo p l e s m args below meth c E A 1 25 4 (zPi post) h 32 [none, none, none, some (.int l3)] [] := by
  unfold b_A_append_32 at hw
  refine z_iload_n C (i := 3) d_A_append_32 rfl rfl ?_
  refine z_iconst C (v := (-1)) d_A_append_33 (by decide) ?_
  refine z_icmp_eq C (tgt := 41) d_A_append_34 (by decide) (fun q => ?_) (fun q => ?_)
  · replace hw := hw.1 q
    refine z_iconst C (v := 0) d_A_append_41 (by decide) ?_
    refine z_le (lv2 := [none, none, none, none]) (trivial) ?_
    exact w_A_append_42 hG C hr _ _ hw
  · replace hw := hw.2 q
    refine z_iconst C (v := 1) d_A_append_37 (by decide) ?_
    refine z_goto C (tgt := 42) d_A_append_38 (by decide) ?_
    refine z_le (lv2 := [none, none, none, none]) (trivial) ?_
    exact w_A_append_42 hG C hr _ _ hw
set_option maxRecDepth 100000 in
set_option maxHeartbeats 4000000 in
theorem w_A_append_22 {l : Launch} {E : zE} {G : (Nat → Prop) → State → Prop} {p : Program} {e : Env} {s : State} {m : MethodId} {args : Array Value} {below : List Frame} {meth : Method} {c : Code} {A : Nat → Prop} {post : Int32 → zH → Prop} (hG : xGG E G) (C : zCx p s m args meth c E G A 1 25 prog_5_method_5_code 4 cn_A) (hr : meth.sig.returnType = (some .boolean))  (l3 : Int32) (h : zH) (hw : b_A_append_22 post l3 h) : zGo p l e s m args below meth c E A 1 25 4 (zPi post) h 22 [some (.ref (E.2.2.1 5)), none, none, some (.int l3)] [] := by
  unfold b_A_append_22 at hw
  refine z_iload_n C (i := 3) d_A_append_22 rfl rfl ?_
  refine z_iconst C (v := (-1)) d_A_append_23 (by decide) ?_
  refine z_icmp_eq C (tgt := 32) d_A_append_24 (by decide) (fun q => ?_) (fun q => ?_)
  · replace hw := hw.1 q
    refine z_le (lv2 := [none, none, none, some (.int l3)]) (⟨rfl, trivial⟩) ?_
    exact w_A_append_32 hG C hr _ _ hw
  · replace hw := hw.2 q
    refine z_aload_n C (i := 0) d_A_append_27 rfl rfl ?_
    refine z_iload_n C (i := 3) d_A_append_28 rfl rfl ?_
    refine z_putI C (ci := 2) (j := 1) (F := cf_A) ct_A (by decide) rfl rfl in_A ty_A nm_A (by decide) fl_A_15 rfl (by decide +kernel) rfl d_A_append_29 (fun h1 eh1 => ?_)
    replace hw := hw h1 eh1
    refine z_le (lv2 := [none, none, none, some (.int l3)]) (⟨rfl, trivial⟩) ?_
    exact w_A_append_32 hG C hr _ _ hw
set_option maxRecDepth 100000 in
set_option maxHeartbeats 4000000 in
theorem t_A_append {l : Launch} {E : zE} {G : (Nat → Prop) → State → Prop} (hG : xGG E G) {l1 : Int32} {l2 : Int32} {h : zH} {post : Int32 → zH → Prop} (hw : wp_A_append l1 l2 h post) : Ct l xX E xcl xN zT G 1 25 y_A_append prog_5_method_5_code 4 (some .boolean) [.ref (E.2.2.1 5), .int l1, .int l2] h (zPi post) := by
  unfold wp_A_append at hw
  refine Ct.of (by decide) (Nat.le_of_ble_eq_true rfl) ?_
  intro p e s m below meth c A C hr
  refine z_lv (lv2 := [some (.ref (E.2.2.1 5)), some (.int l1), some (.int l2), none]) rfl ?_
  refine z_aload_n C (i := 0) d_A_append_0 rfl rfl ?_
  refine z_iload_n C (i := 1) d_A_append_1 rfl rfl ?_
  refine z_aload_n C (i := 0) d_A_append_2 rfl rfl ?_
  refine z_getI C (ci := 2) (j := 1) (F := cf_A) (by decide) rfl rfl in_A (by decide) fl_A_15 rfl d_A_append_3 ?_
  refine z_callVi ⟨xN_ok, hG.1⟩ zT_good C (t_A_appendWord hG hw) ol_A_36 (by decide) rfl rfl (by decide) (by decide) pl_A_appendWord rfl rfl (Nat.le_of_ble_eq_true rfl) d_A_append_6 (fun r2 h3 hw => ?_)
  refine z_istore_n C (i := 3) d_A_append_9 rfl (by decide) rfl ?_
  refine z_iload_n C (i := 3) d_A_append_10 rfl rfl ?_
  refine z_iconst C (v := (-1)) d_A_append_11 (by decide) ?_
  refine z_icmp_eq C (tgt := 22) d_A_append_12 (by decide) (fun q => ?_) (fun q => ?_)
  · replace hw := hw.1 q
    refine z_le (lv2 := [some (.ref (E.2.2.1 5)), none, none, some (.int r2)]) (⟨rfl, ⟨rfl, trivial⟩⟩) ?_
    exact w_A_append_22 hG C hr _ _ hw
  · replace hw := hw.2 q
    refine z_aload_n C (i := 0) d_A_append_15 rfl rfl ?_
    refine z_iload_n C (i := 2) d_A_append_16 rfl rfl ?_
    refine z_iload_n C (i := 3) d_A_append_17 rfl rfl ?_
    refine z_callVi ⟨xN_ok, hG.1⟩ zT_good C (t_A_appendWord hG hw) ol_A_36 (by decide) rfl rfl (by decide) (by decide) pl_A_appendWord rfl rfl (Nat.le_of_ble_eq_true rfl) d_A_append_18 (fun r4 h5 hw => ?_)
    refine z_istore_n C (i := 3) d_A_append_21 rfl (by decide) rfl ?_
    refine z_le (lv2 := [some (.ref (E.2.2.1 5)), none, none, some (.int r4)]) (⟨rfl, ⟨rfl, trivial⟩⟩) ?_
    exact w_A_append_22 hG C hr _ _ hw
theorem d_A_clear_0 : decode prog_5_method_2_code 0 = .ok (.aload_n 0, 1) := by decide +kernel
theorem d_A_clear_1 : decode prog_5_method_2_code 1 = .ok (.iconst 0, 1) := by decide +kernel
theorem d_A_clear_2 : decode prog_5_method_2_code 2 = .ok (.putfield 15, 3) := by decide +kernel
theorem d_A_clear_5 : decode prog_5_method_2_code 5 = .ok (.return_, 1) := by decide +kernel
def wp_A_clear (h : zH) (post : zH → Prop) : Prop := (∀ h1 : zH, h1 = zi h 5 1 0 → post h1)
set_option maxRecDepth 100000 in
set_option maxHeartbeats 4000000 in
theorem t_A_clear {l : Launch} {E : zE} {G : (Nat → Prop) → State → Prop} (hG : xGG E G) {h : zH} {post : zH → Prop} (hw : wp_A_clear  h post) : Ct l xX E xcl xN zT G 0 0 y_A_clear prog_5_method_2_code 1 none [.ref (E.2.2.1 5)] h (zPv post) := by
  unfold wp_A_clear at hw
  refine Ct.of (by decide) (Nat.le_of_ble_eq_true rfl) ?_
  intro p e s m below meth c A C hr
  refine z_lv (lv2 := [some (.ref (E.2.2.1 5))]) rfl ?_
  refine z_aload_n C (i := 0) d_A_clear_0 rfl rfl ?_
  refine z_iconst C (v := 0) d_A_clear_1 (by decide) ?_
  refine z_putI C (ci := 2) (j := 1) (F := cf_A) ct_A (by decide) rfl rfl in_A ty_A nm_A (by decide) fl_A_15 rfl (by decide +kernel) rfl d_A_clear_2 (fun h1 eh1 => ?_)
  replace hw := hw h1 eh1
  exact z_vret C hr d_A_clear_5 hw
theorem d_R_at_0 : decode prog_1_method_10_code 0 = .ok (.iload_n 1, 1) := by decide +kernel
theorem d_R_at_1 : decode prog_1_method_10_code 1 = .ok (.ifCond .lt (15), 3) := by decide +kernel
theorem d_R_at_4 : decode prog_1_method_10_code 4 = .ok (.iload_n 1, 1) := by decide +kernel
theorem d_R_at_5 : decode prog_1_method_10_code 5 = .ok (.aload_n 0, 1) := by decide +kernel
theorem d_R_at_6 : decode prog_1_method_10_code 6 = .ok (.arraylength, 1) := by decide +kernel
theorem d_R_at_7 : decode prog_1_method_10_code 7 = .ok (.if_icmp .ge (9), 3) := by decide +kernel
theorem d_R_at_10 : decode prog_1_method_10_code 10 = .ok (.aload_n 0, 1) := by decide +kernel
theorem d_R_at_11 : decode prog_1_method_10_code 11 = .ok (.iload_n 1, 1) := by decide +kernel
theorem d_R_at_12 : decode prog_1_method_10_code 12 = .ok (.iaload, 1) := by decide +kernel
theorem d_R_at_13 : decode prog_1_method_10_code 13 = .ok (.goto (4), 3) := by decide +kernel
theorem d_R_at_16 : decode prog_1_method_10_code 16 = .ok (.iconst 0, 1) := by decide +kernel
theorem d_R_at_17 : decode prog_1_method_10_code 17 = .ok (.ireturn, 1) := by decide +kernel
def b_R_at_17 (l0 : Nat) (l0n : Nat) (post : Int32 → zH → Prop) (s0 : Int32) (h : zH) : Prop := post s0 h
def b_R_at_16 (l0 : Nat) (l0n : Nat) (post : Int32 → zH → Prop) (h : zH) : Prop := b_R_at_17 l0 l0n post (0) h
def wp_R_at (l0 : Nat) (l0n : Nat) (l1 : Int32) (h : zH) (post : Int32 → zH → Prop) : Prop := xRow l0 l0n ∧ ((l1 < 0 → b_R_at_16 l0 l0n post  h) ∧ (¬ l1 < 0 → (((Int32.ofNat l0n) ≤ l1 → b_R_at_16 l0 l0n post  h) ∧ (¬ (Int32.ofNat l0n) ≤ l1 → (vp_in l1 l0n ∧ b_R_at_17 l0 l0n post ((h.1 l0 (l1 : Int32).toNatClampNeg)) h)))))
set_option maxRecDepth 100000 in
set_option maxHeartbeats 4000000 in
theorem w_R_at_17 {l0 : Nat} {l0n : Nat} {l : Launch} {E : zE} {G : (Nat → Prop) → State → Prop} {p : Program} {e : Env} {s : State} {m : MethodId} {args : Array Value} {below : List Frame} {meth : Method} {c : Code} {A : Nat → Prop} {post : Int32 → zH → Prop} (hG : xGG E G) (C : zCx p s m args meth c E G A 0 0 prog_1_method_10_code 2 cn_R) (hr : meth.sig.returnType = (some .int)) (hk_l0 : xRow l0 l0n)  (s0 : Int32) (h : zH) (hw : b_R_at_17 l0 l0n post s0 h) : zGo p l e s m args below meth c E A 0 0 2 (zPi post) h 17 [none, none] [.int s0] := by
  unfold b_R_at_17 at hw
  exact z_iret C hr d_R_at_17 hw
set_option maxRecDepth 100000 in
set_option maxHeartbeats 4000000 in
theorem w_R_at_16 {l0 : Nat} {l0n : Nat} {l : Launch} {E : zE} {G : (Nat → Prop) → State → Prop} {p : Program} {e : Env} {s : State} {m : MethodId} {args : Array Value} {below : List Frame} {meth : Method} {c : Code} {A : Nat → Prop} {post : Int32 → zH → Prop} (hG : xGG E G) (C : zCx p s m args meth c E G A 0 0 prog_1_method_10_code 2 cn_R) (hr : meth.sig.returnType = (some .int)) (hk_l0 : xRow l0 l0n)  (h : zH) (hw : b_R_at_16 l0 l0n post  h) : zGo p l e s m args below meth c E A 0 0 2 (zPi post) h 16 [none, none] [] := by
  unfold b_R_at_16 at hw
  refine z_iconst C (v := 0) d_R_at_16 (by decide) ?_
  refine z_le (lv2 := [none, none]) (trivial) ?_
  exact w_R_at_17 hG C hr hk_l0 _ _ hw
set_option maxRecDepth 100000 in
set_option maxHeartbeats 4000000 in
theorem t_R_at {l : Launch} {E : zE} {G : (Nat → Prop) → State → Prop} (hG : xGG E G) {l0 : Nat} {l0n : Nat} {l1 : Int32} {h : zH} {post : Int32 → zH → Prop} (hw : wp_R_at l0 l0n l1 h post) : Ct l xX E xcl xN zT G 0 0 y_R_at prog_1_method_10_code 2 (some .int) [.ref (E.2.2.1 l0), .int l1] h (zPi post) := by
  unfold wp_R_at at hw
  obtain ⟨hk_l0, hw⟩ := hw
  refine Ct.of (by decide) (Nat.le_of_ble_eq_true rfl) ?_
  intro p e s m below meth c A C hr
  refine z_lv (lv2 := [some (.ref (E.2.2.1 l0)), some (.int l1)]) rfl ?_
  refine z_iload_n C (i := 1) d_R_at_0 rfl rfl ?_
  refine z_if_lt C (tgt := 16) d_R_at_1 (by decide) (fun q => ?_) (fun q => ?_)
  · replace hw := hw.1 q
    refine z_le (lv2 := [none, none]) (trivial) ?_
    exact w_R_at_16 hG C hr hk_l0  _ hw
  · replace hw := hw.2 q
    refine z_iload_n C (i := 1) d_R_at_4 rfl rfl ?_
    refine z_aload_n C (i := 0) d_R_at_5 rfl rfl ?_
    refine z_alenI C hk_l0.1 hk_l0.2 rfl d_R_at_6 ?_
    refine z_icmp_ge C (tgt := 16) d_R_at_7 (by decide) (fun q => ?_) (fun q => ?_)
    · replace hw := hw.1 q
      refine z_le (lv2 := [none, none]) (trivial) ?_
      exact w_R_at_16 hG C hr hk_l0  _ hw
    · replace hw := hw.2 q
      refine z_aload_n C (i := 0) d_R_at_10 rfl rfl ?_
      refine z_iload_n C (i := 1) d_R_at_11 rfl rfl ?_
      refine z_iald C hk_l0.1 hk_l0.2 hw.1 d_R_at_12 ?_
      replace hw := hw.2
      refine z_goto C (tgt := 17) d_R_at_13 (by decide) ?_
      refine z_le (lv2 := [none, none]) (trivial) ?_
      exact w_R_at_17 hG C hr hk_l0 _ _ hw
theorem d_A_signAt_0 : decode prog_5_method_3_code 0 = .ok (.iload_n 1, 1) := by decide +kernel
theorem d_A_signAt_1 : decode prog_5_method_3_code 1 = .ok (.ifCond .lt (22), 3) := by decide +kernel
theorem d_A_signAt_4 : decode prog_5_method_3_code 4 = .ok (.iload_n 1, 1) := by decide +kernel
theorem d_A_signAt_5 : decode prog_5_method_3_code 5 = .ok (.aload_n 0, 1) := by decide +kernel
theorem d_A_signAt_6 : decode prog_5_method_3_code 6 = .ok (.getfield 15, 3) := by decide +kernel
theorem d_A_signAt_9 : decode prog_5_method_3_code 9 = .ok (.if_icmp .ge (14), 3) := by decide +kernel
theorem d_A_signAt_12 : decode prog_5_method_3_code 12 = .ok (.aload_n 0, 1) := by decide +kernel
theorem d_A_signAt_13 : decode prog_5_method_3_code 13 = .ok (.getfield 9, 3) := by decide +kernel
theorem d_A_signAt_16 : decode prog_5_method_3_code 16 = .ok (.iload_n 1, 1) := by decide +kernel
theorem d_A_signAt_17 : decode prog_5_method_3_code 17 = .ok (.invokestatic 19, 3) := by decide +kernel
theorem d_A_signAt_20 : decode prog_5_method_3_code 20 = .ok (.goto (4), 3) := by decide +kernel
theorem d_A_signAt_23 : decode prog_5_method_3_code 23 = .ok (.iconst (-1), 1) := by decide +kernel
theorem d_A_signAt_24 : decode prog_5_method_3_code 24 = .ok (.ireturn, 1) := by decide +kernel
def b_A_signAt_24 (post : Int32 → zH → Prop) (s0 : Int32) (h : zH) : Prop := post s0 h
def b_A_signAt_23 (post : Int32 → zH → Prop) (h : zH) : Prop := b_A_signAt_24 post ((-1)) h
def wp_A_signAt (l1 : Int32) (h : zH) (post : Int32 → zH → Prop) : Prop := ((l1 < 0 → b_A_signAt_23 post  h) ∧ (¬ l1 < 0 → (((h.1 5 1) ≤ l1 → b_A_signAt_23 post  h) ∧ (¬ (h.1 5 1) ≤ l1 → wp_R_at 6 400 (l1) h (fun (r1 : Int32) (h2 : zH) => b_A_signAt_24 post (r1) h2)))))
set_option maxRecDepth 100000 in
set_option maxHeartbeats 4000000 in
theorem w_A_signAt_24 {l : Launch} {E : zE} {G : (Nat → Prop) → State → Prop} {p : Program} {e : Env} {s : State} {m : MethodId} {args : Array Value} {below : List Frame} {meth : Method} {c : Code} {A : Nat → Prop} {post : Int32 → zH → Prop} (hG : xGG E G) (C : zCx p s m args meth c E G A 1 21 prog_5_method_3_code 2 cn_A) (hr : meth.sig.returnType = (some .int))  (s0 : Int32) (h : zH) (hw : b_A_signAt_24 post s0 h) : zGo p l e s m args below meth c E A 1 21 2 (zPi post) h 24 [none, none] [.int s0] := by
  unfold b_A_signAt_24 at hw
  exact z_iret C hr d_A_signAt_24 hw
set_option maxRecDepth 100000 in
set_option maxHeartbeats 4000000 in
theorem w_A_signAt_23 {l : Launch} {E : zE} {G : (Nat → Prop) → State → Prop} {p : Program} {e : Env} {s : State} {m : MethodId} {args : Array Value} {below : List Frame} {meth : Method} {c : Code} {A : Nat → Prop} {post : Int32 → zH → Prop} (hG : xGG E G) (C : zCx p s m args meth c E G A 1 21 prog_5_method_3_code 2 cn_A) (hr : meth.sig.returnType = (some .int))  (h : zH) (hw : b_A_signAt_23 post  h) : zGo p l e s m args below meth c E A 1 21 2 (zPi post) h 23 [none, none] [] := by
  unfold b_A_signAt_23 at hw
  refine z_iconst C (v := (-1)) d_A_signAt_23 (by decide) ?_
  refine z_le (lv2 := [none, none]) (trivial) ?_
  exact w_A_signAt_24 hG C hr _ _ hw
set_option maxRecDepth 100000 in
set_option maxHeartbeats 4000000 in
theorem t_A_signAt {l : Launch} {E : zE} {G : (Nat → Prop) → State → Prop} (hG : xGG E G) {l1 : Int32} {h : zH} {post : Int32 → zH → Prop} (hw : wp_A_signAt l1 h post) : Ct l xX E xcl xN zT G 1 21 y_A_signAt prog_5_method_3_code 2 (some .int) [.ref (E.2.2.1 5), .int l1] h (zPi post) := by
  unfold wp_A_signAt at hw
  refine Ct.of (by decide) (Nat.le_of_ble_eq_true rfl) ?_
  intro p e s m below meth c A C hr
  refine z_lv (lv2 := [some (.ref (E.2.2.1 5)), some (.int l1)]) rfl ?_
  refine z_iload_n C (i := 1) d_A_signAt_0 rfl rfl ?_
  refine z_if_lt C (tgt := 23) d_A_signAt_1 (by decide) (fun q => ?_) (fun q => ?_)
  · replace hw := hw.1 q
    refine z_le (lv2 := [none, none]) (trivial) ?_
    exact w_A_signAt_23 hG C hr  _ hw
  · replace hw := hw.2 q
    refine z_iload_n C (i := 1) d_A_signAt_4 rfl rfl ?_
    refine z_aload_n C (i := 0) d_A_signAt_5 rfl rfl ?_
    refine z_getI C (ci := 2) (j := 1) (F := cf_A) (by decide) rfl rfl in_A (by decide) fl_A_15 rfl d_A_signAt_6 ?_
    refine z_icmp_ge C (tgt := 23) d_A_signAt_9 (by decide) (fun q => ?_) (fun q => ?_)
    · replace hw := hw.1 q
      refine z_le (lv2 := [none, none]) (trivial) ?_
      exact w_A_signAt_23 hG C hr  _ hw
    · replace hw := hw.2 q
      refine z_aload_n C (i := 0) d_A_signAt_12 rfl rfl ?_
      refine z_getS C (ci := 2) (j := 0) (F := cf_A) (by decide) rfl rfl in_A (by decide) fl_A_9 rfl d_A_signAt_13 ?_
      refine z_iload_n C (i := 1) d_A_signAt_16 rfl rfl ?_
      refine z_callSNi ⟨xN_ok, hG.1⟩ zT_good C (t_R_at hG hw) wn_R_at nl_A_19 (by decide) (by decide) pl_R_at rfl rfl (Nat.le_of_ble_eq_true rfl) d_A_signAt_17 (fun r1 h2 hw => ?_)
      refine z_goto C (tgt := 24) d_A_signAt_20 (by decide) ?_
      refine z_le (lv2 := [none, none]) (trivial) ?_
      exact w_A_signAt_24 hG C hr _ _ hw
