theorem d_M_part5_0 : decode prog_10_method_13_code 0 = .ok (.aload_n 0, 1) := by decide +kernel
theorem d_M_part5_1 : decode prog_10_method_13_code 1 = .ok (.getfield 118, 3) := by decide +kernel
theorem d_M_part5_4 : decode prog_10_method_13_code 4 = .ok (.ifCond .ne (19), 3) := by decide +kernel
theorem d_M_part5_7 : decode prog_10_method_13_code 7 = .ok (.aload_n 0, 1) := by decide +kernel
theorem d_M_part5_8 : decode prog_10_method_13_code 8 = .ok (.getfield 121, 3) := by decide +kernel
theorem d_M_part5_11 : decode prog_10_method_13_code 11 = .ok (.bipush (100), 2) := by decide +kernel
theorem d_M_part5_13 : decode prog_10_method_13_code 13 = .ok (.if_icmp .ne (10), 3) := by decide +kernel
theorem d_M_part5_16 : decode prog_10_method_13_code 16 = .ok (.aload_n 0, 1) := by decide +kernel
theorem d_M_part5_17 : decode prog_10_method_13_code 17 = .ok (.bipush (6), 2) := by decide +kernel
theorem d_M_part5_19 : decode prog_10_method_13_code 19 = .ok (.iload_n 2, 1) := by decide +kernel
theorem d_M_part5_20 : decode prog_10_method_13_code 20 = .ok (.invokevirtual 124, 3) := by decide +kernel
theorem d_M_part5_23 : decode prog_10_method_13_code 23 = .ok (.aload_n 0, 1) := by decide +kernel
theorem d_M_part5_24 : decode prog_10_method_13_code 24 = .ok (.getfield 118, 3) := by decide +kernel
theorem d_M_part5_27 : decode prog_10_method_13_code 27 = .ok (.ifCond .le (5), 3) := by decide +kernel
theorem d_M_part5_30 : decode prog_10_method_13_code 30 = .ok (.iconst 0, 1) := by decide +kernel
theorem d_M_part5_31 : decode prog_10_method_13_code 31 = .ok (.ireturn, 1) := by decide +kernel
theorem d_M_part5_32 : decode prog_10_method_13_code 32 = .ok (.aload_n 0, 1) := by decide +kernel
theorem d_M_part5_33 : decode prog_10_method_13_code 33 = .ok (.getfield 22, 3) := by decide +kernel
theorem d_M_part5_36 : decode prog_10_method_13_code 36 = .ok (.aload_n 0, 1) := by decide +kernel
theorem d_M_part5_37 : decode prog_10_method_13_code 37 = .ok (.getfield 121, 3) := by decide +kernel
theorem d_M_part5_40 : decode prog_10_method_13_code 40 = .ok (.iload_n 1, 1) := by decide +kernel
theorem d_M_part5_41 : decode prog_10_method_13_code 41 = .ok (.iastore, 1) := by decide +kernel
theorem d_M_part5_42 : decode prog_10_method_13_code 42 = .ok (.aload_n 0, 1) := by decide +kernel
theorem d_M_part5_43 : decode prog_10_method_13_code 43 = .ok (.getfield 25, 3) := by decide +kernel
theorem d_M_part5_46 : decode prog_10_method_13_code 46 = .ok (.aload_n 0, 1) := by decide +kernel
theorem d_M_part5_47 : decode prog_10_method_13_code 47 = .ok (.getfield 121, 3) := by decide +kernel
theorem d_M_part5_50 : decode prog_10_method_13_code 50 = .ok (.iload_n 2, 1) := by decide +kernel
theorem d_M_part5_51 : decode prog_10_method_13_code 51 = .ok (.iastore, 1) := by decide +kernel
theorem d_M_part5_52 : decode prog_10_method_13_code 52 = .ok (.aload_n 0, 1) := by decide +kernel
theorem d_M_part5_53 : decode prog_10_method_13_code 53 = .ok (.getfield 28, 3) := by decide +kernel
theorem d_M_part5_56 : decode prog_10_method_13_code 56 = .ok (.aload_n 0, 1) := by decide +kernel
theorem d_M_part5_57 : decode prog_10_method_13_code 57 = .ok (.getfield 121, 3) := by decide +kernel
theorem d_M_part5_60 : decode prog_10_method_13_code 60 = .ok (.iload_n 3, 1) := by decide +kernel
theorem d_M_part5_61 : decode prog_10_method_13_code 61 = .ok (.iastore, 1) := by decide +kernel
theorem d_M_part5_62 : decode prog_10_method_13_code 62 = .ok (.aload_n 0, 1) := by decide +kernel
theorem d_M_part5_63 : decode prog_10_method_13_code 63 = .ok (.getfield 31, 3) := by decide +kernel
theorem d_M_part5_66 : decode prog_10_method_13_code 66 = .ok (.aload_n 0, 1) := by decide +kernel
theorem d_M_part5_67 : decode prog_10_method_13_code 67 = .ok (.getfield 121, 3) := by decide +kernel
theorem d_M_part5_70 : decode prog_10_method_13_code 70 = .ok (.lload 4, 2) := by decide +kernel
theorem d_M_part5_72 : decode prog_10_method_13_code 72 = .ok (.lastore, 1) := by decide +kernel
theorem d_M_part5_73 : decode prog_10_method_13_code 73 = .ok (.aload_n 0, 1) := by decide +kernel
theorem d_M_part5_74 : decode prog_10_method_13_code 74 = .ok (.getfield 35, 3) := by decide +kernel
theorem d_M_part5_77 : decode prog_10_method_13_code 77 = .ok (.aload_n 0, 1) := by decide +kernel
theorem d_M_part5_78 : decode prog_10_method_13_code 78 = .ok (.getfield 121, 3) := by decide +kernel
theorem d_M_part5_81 : decode prog_10_method_13_code 81 = .ok (.lload 6, 2) := by decide +kernel
theorem d_M_part5_83 : decode prog_10_method_13_code 83 = .ok (.lastore, 1) := by decide +kernel
theorem d_M_part5_84 : decode prog_10_method_13_code 84 = .ok (.aload_n 0, 1) := by decide +kernel
theorem d_M_part5_85 : decode prog_10_method_13_code 85 = .ok (.getfield 38, 3) := by decide +kernel
theorem d_M_part5_88 : decode prog_10_method_13_code 88 = .ok (.aload_n 0, 1) := by decide +kernel
theorem d_M_part5_89 : decode prog_10_method_13_code 89 = .ok (.getfield 121, 3) := by decide +kernel
theorem d_M_part5_92 : decode prog_10_method_13_code 92 = .ok (.iconst (-1), 1) := by decide +kernel
theorem d_M_part5_93 : decode prog_10_method_13_code 93 = .ok (.iastore, 1) := by decide +kernel
theorem d_M_part5_94 : decode prog_10_method_13_code 94 = .ok (.aload_n 0, 1) := by decide +kernel
theorem d_M_part5_95 : decode prog_10_method_13_code 95 = .ok (.getfield 41, 3) := by decide +kernel
theorem d_M_part5_98 : decode prog_10_method_13_code 98 = .ok (.aload_n 0, 1) := by decide +kernel
theorem d_M_part5_99 : decode prog_10_method_13_code 99 = .ok (.getfield 121, 3) := by decide +kernel
theorem d_M_part5_102 : decode prog_10_method_13_code 102 = .ok (.iconst (-1), 1) := by decide +kernel
theorem d_M_part5_103 : decode prog_10_method_13_code 103 = .ok (.iastore, 1) := by decide +kernel
theorem d_M_part5_104 : decode prog_10_method_13_code 104 = .ok (.aload_n 0, 1) := by decide +kernel
theorem d_M_part5_105 : decode prog_10_method_13_code 105 = .ok (.getfield 44, 3) := by decide +kernel
theorem d_M_part5_108 : decode prog_10_method_13_code 108 = .ok (.aload_n 0, 1) := by decide +kernel
theorem d_M_part5_109 : decode prog_10_method_13_code 109 = .ok (.getfield 121, 3) := by decide +kernel
theorem d_M_part5_112 : decode prog_10_method_13_code 112 = .ok (.iconst (-1), 1) := by decide +kernel
theorem d_M_part5_113 : decode prog_10_method_13_code 113 = .ok (.iastore, 1) := by decide +kernel
theorem d_M_part5_114 : decode prog_10_method_13_code 114 = .ok (.aload_n 0, 1) := by decide +kernel
theorem d_M_part5_115 : decode prog_10_method_13_code 115 = .ok (.getfield 47, 3) := by decide +kernel
theorem d_M_part5_118 : decode prog_10_method_13_code 118 = .ok (.aload_n 0, 1) := by decide +kernel
theorem d_M_part5_119 : decode prog_10_method_13_code 119 = .ok (.getfield 121, 3) := by decide +kernel
theorem d_M_part5_122 : decode prog_10_method_13_code 122 = .ok (.iconst 1, 1) := by decide +kernel
theorem d_M_part5_123 : decode prog_10_method_13_code 123 = .ok (.iastore, 1) := by decide +kernel
theorem d_M_part5_124 : decode prog_10_method_13_code 124 = .ok (.aload_n 0, 1) := by decide +kernel
theorem d_M_part5_125 : decode prog_10_method_13_code 125 = .ok (.getfield 50, 3) := by decide +kernel
theorem d_M_part5_128 : decode prog_10_method_13_code 128 = .ok (.aload_n 0, 1) := by decide +kernel
theorem d_M_part5_129 : decode prog_10_method_13_code 129 = .ok (.getfield 121, 3) := by decide +kernel
theorem d_M_part5_132 : decode prog_10_method_13_code 132 = .ok (.aload_n 0, 1) := by decide +kernel
theorem d_M_part5_133 : decode prog_10_method_13_code 133 = .ok (.getfield 99, 3) := by decide +kernel
theorem d_M_part5_136 : decode prog_10_method_13_code 136 = .ok (.lastore, 1) := by decide +kernel
theorem d_M_part5_137 : decode prog_10_method_13_code 137 = .ok (.aload_n 0, 1) := by decide +kernel
theorem d_M_part5_138 : decode prog_10_method_13_code 138 = .ok (.dup, 1) := by decide +kernel
theorem d_M_part5_139 : decode prog_10_method_13_code 139 = .ok (.getfield 121, 3) := by decide +kernel
theorem d_M_part5_142 : decode prog_10_method_13_code 142 = .ok (.iconst 1, 1) := by decide +kernel
theorem d_M_part5_143 : decode prog_10_method_13_code 143 = .ok (.iadd, 1) := by decide +kernel
theorem d_M_part5_144 : decode prog_10_method_13_code 144 = .ok (.putfield 121, 3) := by decide +kernel
theorem d_M_part5_147 : decode prog_10_method_13_code 147 = .ok (.aload_n 0, 1) := by decide +kernel
theorem d_M_part5_148 : decode prog_10_method_13_code 148 = .ok (.getfield 121, 3) := by decide +kernel
theorem d_M_part5_151 : decode prog_10_method_13_code 151 = .ok (.iconst 1, 1) := by decide +kernel
theorem d_M_part5_152 : decode prog_10_method_13_code 152 = .ok (.isub, 1) := by decide +kernel
theorem d_M_part5_153 : decode prog_10_method_13_code 153 = .ok (.ireturn, 1) := by decide +kernel
def b_M_part5_23 (post : Int32 → zH → Prop) (l1 : Int32) (l2 : Int32) (l3 : Int32) (l4 : Int64) (l6 : Int64) (h : zH) : Prop := (((h.1 39 24) ≤ 0 → (vp_in (h.1 39 22) 200 ∧ ∀ h1 : zH, h1 = zi h 44 ((h.1 39 22) : Int32).toNatClampNeg l1 → (vp_in (h1.1 39 22) 200 ∧ ∀ h2 : zH, h2 = zi h1 45 ((h1.1 39 22) : Int32).toNatClampNeg l2 → (vp_in (h2.1 39 22) 200 ∧ ∀ h3 : zH, h3 = zi h2 46 ((h2.1 39 22) : Int32).toNatClampNeg l3 → (vp_in (h3.1 39 22) 200 ∧ ∀ h4 : zH, h4 = zl h3 47 ((h3.1 39 22) : Int32).toNatClampNeg l4 → (vp_in (h4.1 39 22) 200 ∧ ∀ h5 : zH, h5 = zl h4 48 ((h4.1 39 22) : Int32).toNatClampNeg l6 → (vp_in (h5.1 39 22) 200 ∧ ∀ h6 : zH, h6 = zi h5 49 ((h5.1 39 22) : Int32).toNatClampNeg (-1) → (vp_in (h6.1 39 22) 200 ∧ ∀ h7 : zH, h7 = zi h6 50 ((h6.1 39 22) : Int32).toNatClampNeg (-1) → (vp_in (h7.1 39 22) 200 ∧ ∀ h8 : zH, h8 = zi h7 51 ((h7.1 39 22) : Int32).toNatClampNeg (-1) → (vp_in (h8.1 39 22) 200 ∧ ∀ h9 : zH, h9 = zi h8 52 ((h8.1 39 22) : Int32).toNatClampNeg 1 → (vp_in (h9.1 39 22) 200 ∧ ∀ h10 : zH, h10 = zl h9 53 ((h9.1 39 22) : Int32).toNatClampNeg (h9.2.1 39 11) → (∀ h11 : zH, h11 = zi h10 39 22 ((h10.1 39 22) + 1) → post ((h11.1 39 22) - 1) h11)))))))))))) ∧ (¬ (h.1 39 24) ≤ 0 → post 0 h))
def wp_M_part5 (l1 : Int32) (l2 : Int32) (l3 : Int32) (l4 : Int64) (l6 : Int64) (h : zH) (post : Int32 → zH → Prop) : Prop := ((¬ (h.1 39 24) = 0 → b_M_part5_23 post (l1) (l2) (l3) (l4) (l6) h) ∧ ((h.1 39 24) = 0 → ((¬ (h.1 39 22) = 100 → b_M_part5_23 post (l1) (l2) (l3) (l4) (l6) h) ∧ ((h.1 39 22) = 100 → wp_M_bad (6) (l2) h (fun (h13 : zH) => b_M_part5_23 post (l1) (l2) (l3) (l4) (l6) h13)))))
set_option maxRecDepth 100000 in
set_option maxHeartbeats 4000000 in
theorem w_M_part5_23 {l : Launch} {E : zE} {G : (Nat → Prop) → State → Prop} {p : Program} {e : Env} {s : State} {m : MethodId} {args : Array Value} {below : List Frame} {meth : Method} {c : Code} {A : Nat → Prop} {post : Int32 → zH → Prop} (hG : xGG E G) (C : zCx p s m args meth c E G A 1 22 prog_10_method_13_code 8 cn_M) (hr : meth.sig.returnType = (some .int))  (l1 : Int32) (l2 : Int32) (l3 : Int32) (l4 : Int64) (l6 : Int64) (h : zH) (hw : b_M_part5_23 post l1 l2 l3 l4 l6 h) : zGo p l e s m args below meth c E A 1 22 8 (zPi post) h 23 [some (.ref (E.2.2.1 39)), some (.int l1), some (.int l2), some (.int l3), some (.long l4), none, some (.long l6), none] [] := by
  unfold b_M_part5_23 at hw
  refine z_aload_n C (i := 0) d_M_part5_23 rfl rfl ?_
  refine z_getI C (ci := 8) (j := 24) (F := cf_M) (by decide) rfl rfl in_M (by decide) fl_M_118 rfl d_M_part5_24 ?_
  refine z_if_le C (tgt := 32) d_M_part5_27 (by decide) (fun q => ?_) (fun q => ?_)
  · replace hw := hw.1 q
    refine z_aload_n C (i := 0) d_M_part5_32 rfl rfl ?_
    refine z_getS C (ci := 8) (j := 12) (F := cf_M) (by decide) rfl rfl in_M (by decide) fl_M_22 rfl d_M_part5_33 ?_
    refine z_aload_n C (i := 0) d_M_part5_36 rfl rfl ?_
    refine z_getI C (ci := 8) (j := 22) (F := cf_M) (by decide) rfl rfl in_M (by decide) fl_M_121 rfl d_M_part5_37 ?_
    refine z_iload_n C (i := 1) d_M_part5_40 rfl rfl ?_
    refine z_iast C (by decide) rfl hw.1 d_M_part5_41 (fun h1 eh1 => ?_)
    replace hw := hw.2 h1 eh1
    refine z_aload_n C (i := 0) d_M_part5_42 rfl rfl ?_
    refine z_getS C (ci := 8) (j := 13) (F := cf_M) (by decide) rfl rfl in_M (by decide) fl_M_25 rfl d_M_part5_43 ?_
    refine z_aload_n C (i := 0) d_M_part5_46 rfl rfl ?_
    refine z_getI C (ci := 8) (j := 22) (F := cf_M) (by decide) rfl rfl in_M (by decide) fl_M_121 rfl d_M_part5_47 ?_
    refine z_iload_n C (i := 2) d_M_part5_50 rfl rfl ?_
    refine z_iast C (by decide) rfl hw.1 d_M_part5_51 (fun h2 eh2 => ?_)
    replace hw := hw.2 h2 eh2
    refine z_aload_n C (i := 0) d_M_part5_52 rfl rfl ?_
    refine z_getS C (ci := 8) (j := 14) (F := cf_M) (by decide) rfl rfl in_M (by decide) fl_M_28 rfl d_M_part5_53 ?_
    refine z_aload_n C (i := 0) d_M_part5_56 rfl rfl ?_
    refine z_getI C (ci := 8) (j := 22) (F := cf_M) (by decide) rfl rfl in_M (by decide) fl_M_121 rfl d_M_part5_57 ?_
    refine z_iload_n C (i := 3) d_M_part5_60 rfl rfl ?_
    refine z_iast C (by decide) rfl hw.1 d_M_part5_61 (fun h3 eh3 => ?_)
    replace hw := hw.2 h3 eh3
    refine z_aload_n C (i := 0) d_M_part5_62 rfl rfl ?_
    refine z_getS C (ci := 8) (j := 15) (F := cf_M) (by decide) rfl rfl in_M (by decide) fl_M_31 rfl d_M_part5_63 ?_
    refine z_aload_n C (i := 0) d_M_part5_66 rfl rfl ?_
    refine z_getI C (ci := 8) (j := 22) (F := cf_M) (by decide) rfl rfl in_M (by decide) fl_M_121 rfl d_M_part5_67 ?_
    refine z_lload C d_M_part5_70 rfl ?_
    refine z_last C (by decide) rfl hw.1 d_M_part5_72 (fun h4 eh4 => ?_)
    replace hw := hw.2 h4 eh4
    refine z_aload_n C (i := 0) d_M_part5_73 rfl rfl ?_
    refine z_getS C (ci := 8) (j := 16) (F := cf_M) (by decide) rfl rfl in_M (by decide) fl_M_35 rfl d_M_part5_74 ?_
    refine z_aload_n C (i := 0) d_M_part5_77 rfl rfl ?_
    refine z_getI C (ci := 8) (j := 22) (F := cf_M) (by decide) rfl rfl in_M (by decide) fl_M_121 rfl d_M_part5_78 ?_
    refine z_lload C d_M_part5_81 rfl ?_
    refine z_last C (by decide) rfl hw.1 d_M_part5_83 (fun h5 eh5 => ?_)
    replace hw := hw.2 h5 eh5
    refine z_aload_n C (i := 0) d_M_part5_84 rfl rfl ?_
    refine z_getS C (ci := 8) (j := 17) (F := cf_M) (by decide) rfl rfl in_M (by decide) fl_M_38 rfl d_M_part5_85 ?_
    refine z_aload_n C (i := 0) d_M_part5_88 rfl rfl ?_
    refine z_getI C (ci := 8) (j := 22) (F := cf_M) (by decide) rfl rfl in_M (by decide) fl_M_121 rfl d_M_part5_89 ?_
    refine z_iconst C (v := (-1)) d_M_part5_92 (by decide) ?_
    refine z_iast C (by decide) rfl hw.1 d_M_part5_93 (fun h6 eh6 => ?_)
    replace hw := hw.2 h6 eh6
    refine z_aload_n C (i := 0) d_M_part5_94 rfl rfl ?_
    refine z_getS C (ci := 8) (j := 18) (F := cf_M) (by decide) rfl rfl in_M (by decide) fl_M_41 rfl d_M_part5_95 ?_
    refine z_aload_n C (i := 0) d_M_part5_98 rfl rfl ?_
    refine z_getI C (ci := 8) (j := 22) (F := cf_M) (by decide) rfl rfl in_M (by decide) fl_M_121 rfl d_M_part5_99 ?_
    refine z_iconst C (v := (-1)) d_M_part5_102 (by decide) ?_
    refine z_iast C (by decide) rfl hw.1 d_M_part5_103 (fun h7 eh7 => ?_)
    replace hw := hw.2 h7 eh7
    refine z_aload_n C (i := 0) d_M_part5_104 rfl rfl ?_
    refine z_getS C (ci := 8) (j := 19) (F := cf_M) (by decide) rfl rfl in_M (by decide) fl_M_44 rfl d_M_part5_105 ?_
    refine z_aload_n C (i := 0) d_M_part5_108 rfl rfl ?_
    refine z_getI C (ci := 8) (j := 22) (F := cf_M) (by decide) rfl rfl in_M (by decide) fl_M_121 rfl d_M_part5_109 ?_
    refine z_iconst C (v := (-1)) d_M_part5_112 (by decide) ?_
    refine z_iast C (by decide) rfl hw.1 d_M_part5_113 (fun h8 eh8 => ?_)
    replace hw := hw.2 h8 eh8
    refine z_aload_n C (i := 0) d_M_part5_114 rfl rfl ?_
    refine z_getS C (ci := 8) (j := 20) (F := cf_M) (by decide) rfl rfl in_M (by decide) fl_M_47 rfl d_M_part5_115 ?_
    refine z_aload_n C (i := 0) d_M_part5_118 rfl rfl ?_
    refine z_getI C (ci := 8) (j := 22) (F := cf_M) (by decide) rfl rfl in_M (by decide) fl_M_121 rfl d_M_part5_119 ?_
    refine z_iconst C (v := 1) d_M_part5_122 (by decide) ?_
    refine z_iast C (by decide) rfl hw.1 d_M_part5_123 (fun h9 eh9 => ?_)
    replace hw := hw.2 h9 eh9
    refine z_aload_n C (i := 0) d_M_part5_124 rfl rfl ?_
    refine z_getS C (ci := 8) (j := 21) (F := cf_M) (by decide) rfl rfl in_M (by decide) fl_M_50 rfl d_M_part5_125 ?_
    refine z_aload_n C (i := 0) d_M_part5_128 rfl rfl ?_
    refine z_getI C (ci := 8) (j := 22) (F := cf_M) (by decide) rfl rfl in_M (by decide) fl_M_121 rfl d_M_part5_129 ?_
    refine z_aload_n C (i := 0) d_M_part5_132 rfl rfl ?_
    refine z_getL C (ci := 8) (j := 11) (F := cf_M) (by decide) rfl rfl in_M (by decide) fl_M_99 rfl d_M_part5_133 ?_
    refine z_last C (by decide) rfl hw.1 d_M_part5_136 (fun h10 eh10 => ?_)
    replace hw := hw.2 h10 eh10
    refine z_aload_n C (i := 0) d_M_part5_137 rfl rfl ?_
    refine z_dup C d_M_part5_138 rfl ?_
    refine z_getI C (ci := 8) (j := 22) (F := cf_M) (by decide) rfl rfl in_M (by decide) fl_M_121 rfl d_M_part5_139 ?_
    refine z_iconst C (v := 1) d_M_part5_142 (by decide) ?_
    refine z_iadd C d_M_part5_143 ?_
    refine z_putI C (ci := 8) (j := 22) (F := cf_M) ct_M (by decide) rfl rfl in_M ty_M nm_M (by decide) fl_M_121 rfl (by decide +kernel) rfl d_M_part5_144 (fun h11 eh11 => ?_)
    replace hw := hw h11 eh11
    refine z_aload_n C (i := 0) d_M_part5_147 rfl rfl ?_
    refine z_getI C (ci := 8) (j := 22) (F := cf_M) (by decide) rfl rfl in_M (by decide) fl_M_121 rfl d_M_part5_148 ?_
    refine z_iconst C (v := 1) d_M_part5_151 (by decide) ?_
    refine z_isub C d_M_part5_152 ?_
    exact z_iret C hr d_M_part5_153 hw
  · replace hw := hw.2 q
    refine z_iconst C (v := 0) d_M_part5_30 (by decide) ?_
    exact z_iret C hr d_M_part5_31 hw
set_option maxRecDepth 100000 in
set_option maxHeartbeats 4000000 in
theorem t_M_part5 {l : Launch} {E : zE} {G : (Nat → Prop) → State → Prop} (hG : xGG E G) {l1 : Int32} {l2 : Int32} {l3 : Int32} {l4 : Int64} {l6 : Int64} {h : zH} {post : Int32 → zH → Prop} (hw : wp_M_part5 l1 l2 l3 l4 l6 h post) : Ct l xX E xcl xN zT G 1 22 y_M_part5 prog_10_method_13_code 8 (some .int) [.ref (E.2.2.1 39), .int l1, .int l2, .int l3, .long l4, .long l6] h (zPi post) := by
  unfold wp_M_part5 at hw
  refine Ct.of (by decide) (Nat.le_of_ble_eq_true rfl) ?_
  intro p e s m below meth c A C hr
  refine z_lv (lv2 := [some (.ref (E.2.2.1 39)), some (.int l1), some (.int l2), some (.int l3), some (.long l4), none, some (.long l6), none]) rfl ?_
  refine z_aload_n C (i := 0) d_M_part5_0 rfl rfl ?_
  refine z_getI C (ci := 8) (j := 24) (F := cf_M) (by decide) rfl rfl in_M (by decide) fl_M_118 rfl d_M_part5_1 ?_
  refine z_if_ne C (tgt := 23) d_M_part5_4 (by decide) (fun q => ?_) (fun q => ?_)
  · replace hw := hw.1 q
    refine z_le (lv2 := [some (.ref (E.2.2.1 39)), some (.int l1), some (.int l2), some (.int l3), some (.long l4), none, some (.long l6), none]) (⟨rfl, ⟨rfl, ⟨rfl, ⟨rfl, ⟨rfl, ⟨rfl, trivial⟩⟩⟩⟩⟩⟩) ?_
    exact w_M_part5_23 hG C hr _ _ _ _ _ _ hw
  · replace hw := hw.2 q
    refine z_aload_n C (i := 0) d_M_part5_7 rfl rfl ?_
    refine z_getI C (ci := 8) (j := 22) (F := cf_M) (by decide) rfl rfl in_M (by decide) fl_M_121 rfl d_M_part5_8 ?_
    refine z_bipush C (v := 100) d_M_part5_11 (by decide) ?_
    refine z_icmp_ne C (tgt := 23) d_M_part5_13 (by decide) (fun q => ?_) (fun q => ?_)
    · replace hw := hw.1 q
      refine z_le (lv2 := [some (.ref (E.2.2.1 39)), some (.int l1), some (.int l2), some (.int l3), some (.long l4), none, some (.long l6), none]) (⟨rfl, ⟨rfl, ⟨rfl, ⟨rfl, ⟨rfl, ⟨rfl, trivial⟩⟩⟩⟩⟩⟩) ?_
      exact w_M_part5_23 hG C hr _ _ _ _ _ _ hw
    · replace hw := hw.2 q
      refine z_aload_n C (i := 0) d_M_part5_16 rfl rfl ?_
      refine z_bipush C (v := 6) d_M_part5_17 (by decide) ?_
      refine z_iload_n C (i := 2) d_M_part5_19 rfl rfl ?_
      refine z_callVv ⟨xN_ok, hG.1⟩ zT_good C (t_M_bad hG hw) ol_M_124 (by decide) rfl rfl (by decide) (by decide) pl_M_bad rfl rfl (Nat.le_of_ble_eq_true rfl) d_M_part5_20 (fun h13 hw => ?_)
      refine z_le (lv2 := [some (.ref (E.2.2.1 39)), some (.int l1), some (.int l2), some (.int l3), some (.long l4), none, some (.long l6), none]) (⟨rfl, ⟨rfl, ⟨rfl, ⟨rfl, ⟨rfl, ⟨rfl, trivial⟩⟩⟩⟩⟩⟩) ?_
      exact w_M_part5_23 hG C hr _ _ _ _ _ _ hw
theorem d_M_push_0 : decode prog_10_method_17_code 0 = .ok (.aload_n 0, 1) := by decide +kernel
theorem d_M_push_1 : decode prog_10_method_17_code 1 = .ok (.getfield 62, 3) := by decide +kernel
theorem d_M_push_4 : decode prog_10_method_17_code 4 = .ok (.aload_n 0, 1) := by decide +kernel
theorem d_M_push_5 : decode prog_10_method_17_code 5 = .ok (.getfield 137, 3) := by decide +kernel
theorem d_M_push_8 : decode prog_10_method_17_code 8 = .ok (.iload_n 1, 1) := by decide +kernel
theorem d_M_push_9 : decode prog_10_method_17_code 9 = .ok (.iastore, 1) := by decide +kernel
theorem d_M_push_10 : decode prog_10_method_17_code 10 = .ok (.aload_n 0, 1) := by decide +kernel
theorem d_M_push_11 : decode prog_10_method_17_code 11 = .ok (.dup, 1) := by decide +kernel
theorem d_M_push_12 : decode prog_10_method_17_code 12 = .ok (.getfield 137, 3) := by decide +kernel
theorem d_M_push_15 : decode prog_10_method_17_code 15 = .ok (.iconst 1, 1) := by decide +kernel
theorem d_M_push_16 : decode prog_10_method_17_code 16 = .ok (.iadd, 1) := by decide +kernel
theorem d_M_push_17 : decode prog_10_method_17_code 17 = .ok (.putfield 137, 3) := by decide +kernel
theorem d_M_push_20 : decode prog_10_method_17_code 20 = .ok (.return_, 1) := by decide +kernel
def wp_M_push (l1 : Int32) (h : zH) (post : zH → Prop) : Prop := (vp_in (h.1 39 30) 300 ∧ ∀ h1 : zH, h1 = zi h 57 ((h.1 39 30) : Int32).toNatClampNeg l1 → (∀ h2 : zH, h2 = zi h1 39 30 ((h1.1 39 30) + 1) → post h2))
set_option maxRecDepth 100000 in
set_option maxHeartbeats 4000000 in
theorem t_M_push {l : Launch} {E : zE} {G : (Nat → Prop) → State → Prop} (hG : xGG E G) {l1 : Int32} {h : zH} {post : zH → Prop} (hw : wp_M_push l1 h post) : Ct l xX E xcl xN zT G 0 0 y_M_push prog_10_method_17_code 2 none [.ref (E.2.2.1 39), .int l1] h (zPv post) := by
  unfold wp_M_push at hw
  refine Ct.of (by decide) (Nat.le_of_ble_eq_true rfl) ?_
  intro p e s m below meth c A C hr
  refine z_lv (lv2 := [some (.ref (E.2.2.1 39)), some (.int l1)]) rfl ?_
  refine z_aload_n C (i := 0) d_M_push_0 rfl rfl ?_
  refine z_getS C (ci := 8) (j := 29) (F := cf_M) (by decide) rfl rfl in_M (by decide) fl_M_62 rfl d_M_push_1 ?_
  refine z_aload_n C (i := 0) d_M_push_4 rfl rfl ?_
  refine z_getI C (ci := 8) (j := 30) (F := cf_M) (by decide) rfl rfl in_M (by decide) fl_M_137 rfl d_M_push_5 ?_
  refine z_iload_n C (i := 1) d_M_push_8 rfl rfl ?_
  refine z_iast C (by decide) rfl hw.1 d_M_push_9 (fun h1 eh1 => ?_)
  replace hw := hw.2 h1 eh1
  refine z_aload_n C (i := 0) d_M_push_10 rfl rfl ?_
  refine z_dup C d_M_push_11 rfl ?_
  refine z_getI C (ci := 8) (j := 30) (F := cf_M) (by decide) rfl rfl in_M (by decide) fl_M_137 rfl d_M_push_12 ?_
  refine z_iconst C (v := 1) d_M_push_15 (by decide) ?_
  refine z_iadd C d_M_push_16 ?_
  refine z_putI C (ci := 8) (j := 30) (F := cf_M) ct_M (by decide) rfl rfl in_M ty_M nm_M (by decide) fl_M_137 rfl (by decide +kernel) rfl d_M_push_17 (fun h2 eh2 => ?_)
  replace hw := hw h2 eh2
  exact z_vret C hr d_M_push_20 hw
theorem d_M_begins_0 : decode prog_10_method_29_code 0 = .ok (.aload_n 0, 1) := by decide +kernel
theorem d_M_begins_1 : decode prog_10_method_29_code 1 = .ok (.getfield 103, 3) := by decide +kernel
theorem d_M_begins_4 : decode prog_10_method_29_code 4 = .ok (.lookupswitch (188) #[(2, 76), (3, 100), (4, 156), (5, 156), (6, 156), (33, 138), (40, 138), (45, 148)], 76) := by decide +kernel
theorem d_M_begins_80 : decode prog_10_method_29_code 80 = .ok (.aload_n 0, 1) := by decide +kernel
theorem d_M_begins_81 : decode prog_10_method_29_code 81 = .ok (.aload_n 0, 1) := by decide +kernel
theorem d_M_begins_82 : decode prog_10_method_29_code 82 = .ok (.iconst 2, 1) := by decide +kernel
theorem d_M_begins_83 : decode prog_10_method_29_code 83 = .ok (.aload_n 0, 1) := by decide +kernel
theorem d_M_begins_84 : decode prog_10_method_29_code 84 = .ok (.getfield 93, 3) := by decide +kernel
theorem d_M_begins_87 : decode prog_10_method_29_code 87 = .ok (.iconst 0, 1) := by decide +kernel
theorem d_M_begins_88 : decode prog_10_method_29_code 88 = .ok (.aload_n 0, 1) := by decide +kernel
theorem d_M_begins_89 : decode prog_10_method_29_code 89 = .ok (.getfield 99, 3) := by decide +kernel
theorem d_M_begins_92 : decode prog_10_method_29_code 92 = .ok (.aload_n 0, 1) := by decide +kernel
theorem d_M_begins_93 : decode prog_10_method_29_code 93 = .ok (.getfield 99, 3) := by decide +kernel
theorem d_M_begins_96 : decode prog_10_method_29_code 96 = .ok (.invokevirtual 167, 3) := by decide +kernel
theorem d_M_begins_99 : decode prog_10_method_29_code 99 = .ok (.invokevirtual 171, 3) := by decide +kernel
theorem d_M_begins_102 : decode prog_10_method_29_code 102 = .ok (.iconst 1, 1) := by decide +kernel
theorem d_M_begins_103 : decode prog_10_method_29_code 103 = .ok (.ireturn, 1) := by decide +kernel
theorem d_M_begins_104 : decode prog_10_method_29_code 104 = .ok (.aload_n 0, 1) := by decide +kernel
theorem d_M_begins_105 : decode prog_10_method_29_code 105 = .ok (.aload_n 0, 1) := by decide +kernel
theorem d_M_begins_106 : decode prog_10_method_29_code 106 = .ok (.iconst 3, 1) := by decide +kernel
theorem d_M_begins_107 : decode prog_10_method_29_code 107 = .ok (.aload_n 0, 1) := by decide +kernel
theorem d_M_begins_108 : decode prog_10_method_29_code 108 = .ok (.getfield 93, 3) := by decide +kernel
theorem d_M_begins_111 : decode prog_10_method_29_code 111 = .ok (.iconst 0, 1) := by decide +kernel
theorem d_M_begins_112 : decode prog_10_method_29_code 112 = .ok (.aload_n 0, 1) := by decide +kernel
theorem d_M_begins_113 : decode prog_10_method_29_code 113 = .ok (.getfield 7, 3) := by decide +kernel
theorem d_M_begins_116 : decode prog_10_method_29_code 116 = .ok (.aload_n 0, 1) := by decide +kernel
theorem d_M_begins_117 : decode prog_10_method_29_code 117 = .ok (.getfield 99, 3) := by decide +kernel
theorem d_M_begins_120 : decode prog_10_method_29_code 120 = .ok (.l2i, 1) := by decide +kernel
theorem d_M_begins_121 : decode prog_10_method_29_code 121 = .ok (.iaload, 1) := by decide +kernel
theorem d_M_begins_122 : decode prog_10_method_29_code 122 = .ok (.i2l, 1) := by decide +kernel
theorem d_M_begins_123 : decode prog_10_method_29_code 123 = .ok (.aload_n 0, 1) := by decide +kernel
theorem d_M_begins_124 : decode prog_10_method_29_code 124 = .ok (.getfield 13, 3) := by decide +kernel
theorem d_M_begins_127 : decode prog_10_method_29_code 127 = .ok (.aload_n 0, 1) := by decide +kernel
theorem d_M_begins_128 : decode prog_10_method_29_code 128 = .ok (.getfield 99, 3) := by decide +kernel
theorem d_M_begins_131 : decode prog_10_method_29_code 131 = .ok (.l2i, 1) := by decide +kernel
theorem d_M_begins_132 : decode prog_10_method_29_code 132 = .ok (.iaload, 1) := by decide +kernel
theorem d_M_begins_133 : decode prog_10_method_29_code 133 = .ok (.i2l, 1) := by decide +kernel
theorem d_M_begins_134 : decode prog_10_method_29_code 134 = .ok (.invokevirtual 167, 3) := by decide +kernel
theorem d_M_begins_137 : decode prog_10_method_29_code 137 = .ok (.invokevirtual 171, 3) := by decide +kernel
theorem d_M_begins_140 : decode prog_10_method_29_code 140 = .ok (.iconst 1, 1) := by decide +kernel
theorem d_M_begins_141 : decode prog_10_method_29_code 141 = .ok (.ireturn, 1) := by decide +kernel
theorem d_M_begins_142 : decode prog_10_method_29_code 142 = .ok (.aload_n 0, 1) := by decide +kernel
theorem d_M_begins_143 : decode prog_10_method_29_code 143 = .ok (.aload_n 0, 1) := by decide +kernel
theorem d_M_begins_144 : decode prog_10_method_29_code 144 = .ok (.getfield 103, 3) := by decide +kernel
theorem d_M_begins_147 : decode prog_10_method_29_code 147 = .ok (.invokevirtual 190, 3) := by decide +kernel
theorem d_M_begins_150 : decode prog_10_method_29_code 150 = .ok (.iconst 0, 1) := by decide +kernel
theorem d_M_begins_151 : decode prog_10_method_29_code 151 = .ok (.ireturn, 1) := by decide +kernel
theorem d_M_begins_152 : decode prog_10_method_29_code 152 = .ok (.aload_n 0, 1) := by decide +kernel
theorem d_M_begins_153 : decode prog_10_method_29_code 153 = .ok (.bipush (100), 2) := by decide +kernel
theorem d_M_begins_155 : decode prog_10_method_29_code 155 = .ok (.invokevirtual 190, 3) := by decide +kernel
theorem d_M_begins_158 : decode prog_10_method_29_code 158 = .ok (.iconst 0, 1) := by decide +kernel
theorem d_M_begins_159 : decode prog_10_method_29_code 159 = .ok (.ireturn, 1) := by decide +kernel
theorem d_M_begins_160 : decode prog_10_method_29_code 160 = .ok (.aload_n 0, 1) := by decide +kernel
theorem d_M_begins_161 : decode prog_10_method_29_code 161 = .ok (.aload_n 0, 1) := by decide +kernel
theorem d_M_begins_162 : decode prog_10_method_29_code 162 = .ok (.getfield 103, 3) := by decide +kernel
theorem d_M_begins_165 : decode prog_10_method_29_code 165 = .ok (.invokevirtual 190, 3) := by decide +kernel
theorem d_M_begins_168 : decode prog_10_method_29_code 168 = .ok (.aload_n 0, 1) := by decide +kernel
theorem d_M_begins_169 : decode prog_10_method_29_code 169 = .ok (.invokevirtual 193, 3) := by decide +kernel
theorem d_M_begins_172 : decode prog_10_method_29_code 172 = .ok (.aload_n 0, 1) := by decide +kernel
theorem d_M_begins_173 : decode prog_10_method_29_code 173 = .ok (.getfield 103, 3) := by decide +kernel
theorem d_M_begins_176 : decode prog_10_method_29_code 176 = .ok (.bipush (40), 2) := by decide +kernel
theorem d_M_begins_178 : decode prog_10_method_29_code 178 = .ok (.if_icmp .eq (12), 3) := by decide +kernel
theorem d_M_begins_181 : decode prog_10_method_29_code 181 = .ok (.aload_n 0, 1) := by decide +kernel
theorem d_M_begins_182 : decode prog_10_method_29_code 182 = .ok (.iconst 1, 1) := by decide +kernel
theorem d_M_begins_183 : decode prog_10_method_29_code 183 = .ok (.aload_n 0, 1) := by decide +kernel
theorem d_M_begins_184 : decode prog_10_method_29_code 184 = .ok (.getfield 93, 3) := by decide +kernel
theorem d_M_begins_187 : decode prog_10_method_29_code 187 = .ok (.invokevirtual 124, 3) := by decide +kernel
theorem d_M_begins_190 : decode prog_10_method_29_code 190 = .ok (.iconst 0, 1) := by decide +kernel
theorem d_M_begins_191 : decode prog_10_method_29_code 191 = .ok (.ireturn, 1) := by decide +kernel
theorem d_M_begins_192 : decode prog_10_method_29_code 192 = .ok (.aload_n 0, 1) := by decide +kernel
theorem d_M_begins_193 : decode prog_10_method_29_code 193 = .ok (.iconst 1, 1) := by decide +kernel
theorem d_M_begins_194 : decode prog_10_method_29_code 194 = .ok (.aload_n 0, 1) := by decide +kernel
theorem d_M_begins_195 : decode prog_10_method_29_code 195 = .ok (.getfield 93, 3) := by decide +kernel
theorem d_M_begins_198 : decode prog_10_method_29_code 198 = .ok (.invokevirtual 124, 3) := by decide +kernel
theorem d_M_begins_201 : decode prog_10_method_29_code 201 = .ok (.iconst 0, 1) := by decide +kernel
theorem d_M_begins_202 : decode prog_10_method_29_code 202 = .ok (.ireturn, 1) := by decide +kernel
def b_M_begins_142 (post : Int32 → zH → Prop) (h : zH) : Prop := wp_M_enter ((h.1 39 8)) h (fun (h2 : zH) => post 0 h2)
def b_M_begins_190 (post : Int32 → zH → Prop) (h : zH) : Prop := post 0 h
def b_M_begins_160 (post : Int32 → zH → Prop) (h : zH) : Prop := wp_M_enter ((h.1 39 8)) h (fun (h4 : zH) => wp_M_next  h4 (fun (h6 : zH) => (((h6.1 39 8) = 40 → b_M_begins_190 post  h6) ∧ (¬ (h6.1 39 8) = 40 → wp_M_bad (1) ((h6.1 39 9)) h6 (fun (h8 : zH) => b_M_begins_190 post  h8)))))
def wp_M_begins (h : zH) (post : Int32 → zH → Prop) : Prop := (((h.1 39 8) = 2 → wp_M_part5 (2) ((h.1 39 9)) (0) ((h.2.1 39 11)) ((h.2.1 39 11)) h (fun (r9 : Int32) (h10 : zH) => wp_M_push (r9) h10 (fun (h12 : zH) => post 1 h12))) ∧ (¬ (h.1 39 8) = 2 → (((h.1 39 8) = 3 → (vp_in ((h.2.1 39 11) : Int64).toInt32 20 ∧ (vp_in ((h.2.1 39 11) : Int64).toInt32 20 ∧ wp_M_part5 (3) ((h.1 39 9)) (0) (((h.1 40 (((h.2.1 39 11) : Int64).toInt32 : Int32).toNatClampNeg) : Int32).toInt64) (((h.1 41 (((h.2.1 39 11) : Int64).toInt32 : Int32).toNatClampNeg) : Int32).toInt64) h (fun (r13 : Int32) (h14 : zH) => wp_M_push (r13) h14 (fun (h16 : zH) => post 1 h16))))) ∧ (¬ (h.1 39 8) = 3 → (((h.1 39 8) = 4 → b_M_begins_160 post  h) ∧ (¬ (h.1 39 8) = 4 → (((h.1 39 8) = 5 → b_M_begins_160 post  h) ∧ (¬ (h.1 39 8) = 5 → (((h.1 39 8) = 6 → b_M_begins_160 post  h) ∧ (¬ (h.1 39 8) = 6 → (((h.1 39 8) = 33 → b_M_begins_142 post  h) ∧ (¬ (h.1 39 8) = 33 → (((h.1 39 8) = 40 → b_M_begins_142 post  h) ∧ (¬ (h.1 39 8) = 40 → (((h.1 39 8) = 45 → wp_M_enter (100) h (fun (h18 : zH) => post 0 h18)) ∧ (¬ (h.1 39 8) = 45 → wp_M_bad (1) ((h.1 39 9)) h (fun (h20 : zH) => post 0 h20)))))))))))))))))
set_option maxRecDepth 100000 in
set_option maxHeartbeats 4000000 in
theorem w_M_begins_142 {l : Launch} {E : zE} {G : (Nat → Prop) → State → Prop} {p : Program} {e : Env} {s : State} {m : MethodId} {args : Array Value} {below : List Frame} {meth : Method} {c : Code} {A : Nat → Prop} {post : Int32 → zH → Prop} (hG : xGG E G) (C : zCx p s m args meth c E G A 3 67 prog_10_method_29_code 1 cn_M) (hr : meth.sig.returnType = (some .boolean))  (h : zH) (hw : b_M_begins_142 post  h) : zGo p l e s m args below meth c E A 3 67 1 (zPi post) h 142 [some (.ref (E.2.2.1 39))] [] := by
  unfold b_M_begins_142 at hw
  refine z_aload_n C (i := 0) d_M_begins_142 rfl rfl ?_
  refine z_aload_n C (i := 0) d_M_begins_143 rfl rfl ?_
  refine z_getI C (ci := 8) (j := 8) (F := cf_M) (by decide) rfl rfl in_M (by decide) fl_M_103 rfl d_M_begins_144 ?_
  refine z_callVv ⟨xN_ok, hG.1⟩ zT_good C (t_M_enter hG hw) ol_M_190 (by decide) rfl rfl (by decide) (by decide) pl_M_enter rfl rfl (Nat.le_of_ble_eq_true rfl) d_M_begins_147 (fun h2 hw => ?_)
  refine z_iconst C (v := 0) d_M_begins_150 (by decide) ?_
  exact z_zret C hr rfl d_M_begins_151 hw
set_option maxRecDepth 100000 in
set_option maxHeartbeats 4000000 in
theorem w_M_begins_190 {l : Launch} {E : zE} {G : (Nat → Prop) → State → Prop} {p : Program} {e : Env} {s : State} {m : MethodId} {args : Array Value} {below : List Frame} {meth : Method} {c : Code} {A : Nat → Prop} {post : Int32 → zH → Prop} (hG : xGG E G) (C : zCx p s m args meth c E G A 3 67 prog_10_method_29_code 1 cn_M) (hr : meth.sig.returnType = (some .boolean))  (h : zH) (hw : b_M_begins_190 post  h) : zGo p l e s m args below meth c E A 3 67 1 (zPi post) h 190 [none] [] := by
  unfold b_M_begins_190 at hw
  refine z_iconst C (v := 0) d_M_begins_190 (by decide) ?_
  exact z_zret C hr rfl d_M_begins_191 hw
set_option maxRecDepth 100000 in
set_option maxHeartbeats 4000000 in
theorem w_M_begins_160 {l : Launch} {E : zE} {G : (Nat → Prop) → State → Prop} {p : Program} {e : Env} {s : State} {m : MethodId} {args : Array Value} {below : List Frame} {meth : Method} {c : Code} {A : Nat → Prop} {post : Int32 → zH → Prop} (hG : xGG E G) (C : zCx p s m args meth c E G A 3 67 prog_10_method_29_code 1 cn_M) (hr : meth.sig.returnType = (some .boolean))  (h : zH) (hw : b_M_begins_160 post  h) : zGo p l e s m args below meth c E A 3 67 1 (zPi post) h 160 [some (.ref (E.2.2.1 39))] [] := by
  unfold b_M_begins_160 at hw
  refine z_aload_n C (i := 0) d_M_begins_160 rfl rfl ?_
  refine z_aload_n C (i := 0) d_M_begins_161 rfl rfl ?_
  refine z_getI C (ci := 8) (j := 8) (F := cf_M) (by decide) rfl rfl in_M (by decide) fl_M_103 rfl d_M_begins_162 ?_
  refine z_callVv ⟨xN_ok, hG.1⟩ zT_good C (t_M_enter hG hw) ol_M_190 (by decide) rfl rfl (by decide) (by decide) pl_M_enter rfl rfl (Nat.le_of_ble_eq_true rfl) d_M_begins_165 (fun h4 hw => ?_)
  refine z_aload_n C (i := 0) d_M_begins_168 rfl rfl ?_
  refine z_callVv ⟨xN_ok, hG.1⟩ zT_good C (t_M_next hG hw) ol_M_193 (by decide) rfl rfl (by decide) (by decide) pl_M_next rfl rfl (Nat.le_of_ble_eq_true rfl) d_M_begins_169 (fun h6 hw => ?_)
  refine z_aload_n C (i := 0) d_M_begins_172 rfl rfl ?_
  refine z_getI C (ci := 8) (j := 8) (F := cf_M) (by decide) rfl rfl in_M (by decide) fl_M_103 rfl d_M_begins_173 ?_
  refine z_bipush C (v := 40) d_M_begins_176 (by decide) ?_
  refine z_icmp_eq C (tgt := 190) d_M_begins_178 (by decide) (fun q => ?_) (fun q => ?_)
  · replace hw := hw.1 q
    refine z_le (lv2 := [none]) (trivial) ?_
    exact w_M_begins_190 hG C hr  _ hw
  · replace hw := hw.2 q
    refine z_aload_n C (i := 0) d_M_begins_181 rfl rfl ?_
    refine z_iconst C (v := 1) d_M_begins_182 (by decide) ?_
    refine z_aload_n C (i := 0) d_M_begins_183 rfl rfl ?_
    refine z_getI C (ci := 8) (j := 9) (F := cf_M) (by decide) rfl rfl in_M (by decide) fl_M_93 rfl d_M_begins_184 ?_
    refine z_callVv ⟨xN_ok, hG.1⟩ zT_good C (t_M_bad hG hw) ol_M_124 (by decide) rfl rfl (by decide) (by decide) pl_M_bad rfl rfl (Nat.le_of_ble_eq_true rfl) d_M_begins_187 (fun h8 hw => ?_)
    refine z_le (lv2 := [none]) (trivial) ?_
    exact w_M_begins_190 hG C hr  _ hw
set_option maxRecDepth 100000 in
set_option maxHeartbeats 4000000 in
theorem t_M_begins {l : Launch} {E : zE} {G : (Nat → Prop) → State → Prop} (hG : xGG E G) {h : zH} {post : Int32 → zH → Prop} (hw : wp_M_begins  h post) : Ct l xX E xcl xN zT G 3 67 y_M_begins prog_10_method_29_code 1 (some .boolean) [.ref (E.2.2.1 39)] h (zPi post) := by
  unfold wp_M_begins at hw
  refine Ct.of (by decide) (Nat.le_of_ble_eq_true rfl) ?_
  intro p e s m below meth c A C hr
  refine z_lv (lv2 := [some (.ref (E.2.2.1 39))]) rfl ?_
  refine z_aload_n C (i := 0) d_M_begins_0 rfl rfl ?_
  refine z_getI C (ci := 8) (j := 8) (F := cf_M) (by decide) rfl rfl in_M (by decide) fl_M_103 rfl d_M_begins_1 ?_
  refine z_lcase C (off := 76) (tgt := 80) (2 : Int32) d_M_begins_4 (by decide) (by decide) (by decide) (fun q0 => ?_) (fun q0 => ?_)
  · replace hw := hw.1 q0
    refine z_aload_n C (i := 0) d_M_begins_80 rfl rfl ?_
    refine z_aload_n C (i := 0) d_M_begins_81 rfl rfl ?_
    refine z_iconst C (v := 2) d_M_begins_82 (by decide) ?_
    refine z_aload_n C (i := 0) d_M_begins_83 rfl rfl ?_
    refine z_getI C (ci := 8) (j := 9) (F := cf_M) (by decide) rfl rfl in_M (by decide) fl_M_93 rfl d_M_begins_84 ?_
    refine z_iconst C (v := 0) d_M_begins_87 (by decide) ?_
    refine z_aload_n C (i := 0) d_M_begins_88 rfl rfl ?_
    refine z_getL C (ci := 8) (j := 11) (F := cf_M) (by decide) rfl rfl in_M (by decide) fl_M_99 rfl d_M_begins_89 ?_
    refine z_aload_n C (i := 0) d_M_begins_92 rfl rfl ?_
    refine z_getL C (ci := 8) (j := 11) (F := cf_M) (by decide) rfl rfl in_M (by decide) fl_M_99 rfl d_M_begins_93 ?_
    refine z_callVi ⟨xN_ok, hG.1⟩ zT_good C (t_M_part5 hG hw) ol_M_167 (by decide) rfl rfl (by decide) (by decide) pl_M_part5 rfl rfl (Nat.le_of_ble_eq_true rfl) d_M_begins_96 (fun r9 h10 hw => ?_)
    refine z_callVv ⟨xN_ok, hG.1⟩ zT_good C (t_M_push hG hw) ol_M_171 (by decide) rfl rfl (by decide) (by decide) pl_M_push rfl rfl (Nat.le_of_ble_eq_true rfl) d_M_begins_99 (fun h12 hw => ?_)
    refine z_iconst C (v := 1) d_M_begins_102 (by decide) ?_
    exact z_zret C hr rfl d_M_begins_103 hw
  replace hw := hw.2 q0
  refine z_lcase C (off := 100) (tgt := 104) (3 : Int32) d_M_begins_4 (by decide) (by decide) (by decide) (fun q1 => ?_) (fun q1 => ?_)
  · replace hw := hw.1 q1
    refine z_aload_n C (i := 0) d_M_begins_104 rfl rfl ?_
    refine z_aload_n C (i := 0) d_M_begins_105 rfl rfl ?_
    refine z_iconst C (v := 3) d_M_begins_106 (by decide) ?_
    refine z_aload_n C (i := 0) d_M_begins_107 rfl rfl ?_
    refine z_getI C (ci := 8) (j := 9) (F := cf_M) (by decide) rfl rfl in_M (by decide) fl_M_93 rfl d_M_begins_108 ?_
    refine z_iconst C (v := 0) d_M_begins_111 (by decide) ?_
    refine z_aload_n C (i := 0) d_M_begins_112 rfl rfl ?_
    refine z_getS C (ci := 8) (j := 2) (F := cf_M) (by decide) rfl rfl in_M (by decide) fl_M_7 rfl d_M_begins_113 ?_
    refine z_aload_n C (i := 0) d_M_begins_116 rfl rfl ?_
    refine z_getL C (ci := 8) (j := 11) (F := cf_M) (by decide) rfl rfl in_M (by decide) fl_M_99 rfl d_M_begins_117 ?_
    refine z_l2i C d_M_begins_120 ?_
    refine z_iald C (by decide) rfl hw.1 d_M_begins_121 ?_
    replace hw := hw.2
    refine z_i2l C d_M_begins_122 ?_
    refine z_aload_n C (i := 0) d_M_begins_123 rfl rfl ?_
    refine z_getS C (ci := 8) (j := 3) (F := cf_M) (by decide) rfl rfl in_M (by decide) fl_M_13 rfl d_M_begins_124 ?_
    refine z_aload_n C (i := 0) d_M_begins_127 rfl rfl ?_
    refine z_getL C (ci := 8) (j := 11) (F := cf_M) (by decide) rfl rfl in_M (by decide) fl_M_99 rfl d_M_begins_128 ?_
    refine z_l2i C d_M_begins_131 ?_
    refine z_iald C (by decide) rfl hw.1 d_M_begins_132 ?_
    replace hw := hw.2
    refine z_i2l C d_M_begins_133 ?_
    refine z_callVi ⟨xN_ok, hG.1⟩ zT_good C (t_M_part5 hG hw) ol_M_167 (by decide) rfl rfl (by decide) (by decide) pl_M_part5 rfl rfl (Nat.le_of_ble_eq_true rfl) d_M_begins_134 (fun r13 h14 hw => ?_)
    refine z_callVv ⟨xN_ok, hG.1⟩ zT_good C (t_M_push hG hw) ol_M_171 (by decide) rfl rfl (by decide) (by decide) pl_M_push rfl rfl (Nat.le_of_ble_eq_true rfl) d_M_begins_137 (fun h16 hw => ?_)
    refine z_iconst C (v := 1) d_M_begins_140 (by decide) ?_
    exact z_zret C hr rfl d_M_begins_141 hw
  replace hw := hw.2 q1
  refine z_lcase C (off := 156) (tgt := 160) (4 : Int32) d_M_begins_4 (by decide) (by decide) (by decide) (fun q2 => ?_) (fun q2 => ?_)
  · replace hw := hw.1 q2
    refine z_le (lv2 := [some (.ref (E.2.2.1 39))]) (⟨rfl, trivial⟩) ?_
    exact w_M_begins_160 hG C hr  _ hw
  replace hw := hw.2 q2
  refine z_lcase C (off := 156) (tgt := 160) (5 : Int32) d_M_begins_4 (by decide) (by decide) (by decide) (fun q3 => ?_) (fun q3 => ?_)
  · replace hw := hw.1 q3
    refine z_le (lv2 := [some (.ref (E.2.2.1 39))]) (⟨rfl, trivial⟩) ?_
    exact w_M_begins_160 hG C hr  _ hw
  replace hw := hw.2 q3
  refine z_lcase C (off := 156) (tgt := 160) (6 : Int32) d_M_begins_4 (by decide) (by decide) (by decide) (fun q4 => ?_) (fun q4 => ?_)
  · replace hw := hw.1 q4
    refine z_le (lv2 := [some (.ref (E.2.2.1 39))]) (⟨rfl, trivial⟩) ?_
    exact w_M_begins_160 hG C hr  _ hw
  replace hw := hw.2 q4
  refine z_lcase C (off := 138) (tgt := 142) (33 : Int32) d_M_begins_4 (by decide) (by decide) (by decide) (fun q5 => ?_) (fun q5 => ?_)
  · replace hw := hw.1 q5
    refine z_le (lv2 := [some (.ref (E.2.2.1 39))]) (⟨rfl, trivial⟩) ?_
    exact w_M_begins_142 hG C hr  _ hw
  replace hw := hw.2 q5
  refine z_lcase C (off := 138) (tgt := 142) (40 : Int32) d_M_begins_4 (by decide) (by decide) (by decide) (fun q6 => ?_) (fun q6 => ?_)
  · replace hw := hw.1 q6
    refine z_le (lv2 := [some (.ref (E.2.2.1 39))]) (⟨rfl, trivial⟩) ?_
    exact w_M_begins_142 hG C hr  _ hw
  replace hw := hw.2 q6
  refine z_lcase C (off := 148) (tgt := 152) (45 : Int32) d_M_begins_4 (by decide) (by decide) (by decide) (fun q7 => ?_) (fun q7 => ?_)
  · replace hw := hw.1 q7
    refine z_aload_n C (i := 0) d_M_begins_152 rfl rfl ?_
    refine z_bipush C (v := 100) d_M_begins_153 (by decide) ?_
    refine z_callVv ⟨xN_ok, hG.1⟩ zT_good C (t_M_enter hG hw) ol_M_190 (by decide) rfl rfl (by decide) (by decide) pl_M_enter rfl rfl (Nat.le_of_ble_eq_true rfl) d_M_begins_155 (fun h18 hw => ?_)
    refine z_iconst C (v := 0) d_M_begins_158 (by decide) ?_
    exact z_zret C hr rfl d_M_begins_159 hw
  replace hw := hw.2 q7
  refine z_lookup C (off := 188) (tgt := 192) d_M_begins_4 (by decide) (by show Op.lookupswitch.offset [(2, 76), (3, 100), (4, 156), (5, 156), (6, 156), (33, 138), (40, 138), (45, 148)] (188) _ = (188); rw [lv_osw q0 (a := 2) rfl, lv_osw q1 (a := 3) rfl, lv_osw q2 (a := 4) rfl, lv_osw q3 (a := 5) rfl, lv_osw q4 (a := 6) rfl, lv_osw q5 (a := 33) rfl, lv_osw q6 (a := 40) rfl, lv_osw q7 (a := 45) rfl]; rfl) (by decide) ?_
  refine z_aload_n C (i := 0) d_M_begins_192 rfl rfl ?_
  refine z_iconst C (v := 1) d_M_begins_193 (by decide) ?_
  refine z_aload_n C (i := 0) d_M_begins_194 rfl rfl ?_
  refine z_getI C (ci := 8) (j := 9) (F := cf_M) (by decide) rfl rfl in_M (by decide) fl_M_93 rfl d_M_begins_195 ?_
  refine z_callVv ⟨xN_ok, hG.1⟩ zT_good C (t_M_bad hG hw) ol_M_124 (by decide) rfl rfl (by decide) (by decide) pl_M_bad rfl rfl (Nat.le_of_ble_eq_true rfl) d_M_begins_198 (fun h20 hw => ?_)
  refine z_iconst C (v := 0) d_M_begins_201 (by decide) ?_
  exact z_zret C hr rfl d_M_begins_202 hw
theorem d_M_count_0 : decode prog_10_method_38_code 0 = .ok (.aload_n 0, 1) := by decide +kernel
theorem d_M_count_1 : decode prog_10_method_38_code 1 = .ok (.iconst 0, 1) := by decide +kernel
theorem d_M_count_2 : decode prog_10_method_38_code 2 = .ok (.putfield 68, 3) := by decide +kernel
theorem d_M_count_5 : decode prog_10_method_38_code 5 = .ok (.iload_n 1, 1) := by decide +kernel
theorem d_M_count_6 : decode prog_10_method_38_code 6 = .ok (.tableswitch (69) (0) (3) #[30, 35, 40, 45], 30) := by decide +kernel
theorem d_M_count_36 : decode prog_10_method_38_code 36 = .ok (.aload_n 0, 1) := by decide +kernel
theorem d_M_count_37 : decode prog_10_method_38_code 37 = .ok (.getfield 72, 3) := by decide +kernel
theorem d_M_count_40 : decode prog_10_method_38_code 40 = .ok (.ireturn, 1) := by decide +kernel
theorem d_M_count_41 : decode prog_10_method_38_code 41 = .ok (.aload_n 0, 1) := by decide +kernel
theorem d_M_count_42 : decode prog_10_method_38_code 42 = .ok (.getfield 212, 3) := by decide +kernel
theorem d_M_count_45 : decode prog_10_method_38_code 45 = .ok (.ireturn, 1) := by decide +kernel
theorem d_M_count_46 : decode prog_10_method_38_code 46 = .ok (.aload_n 0, 1) := by decide +kernel
theorem d_M_count_47 : decode prog_10_method_38_code 47 = .ok (.getfield 83, 3) := by decide +kernel
theorem d_M_count_50 : decode prog_10_method_38_code 50 = .ok (.ireturn, 1) := by decide +kernel
theorem d_M_count_51 : decode prog_10_method_38_code 51 = .ok (.aload_n 0, 1) := by decide +kernel
theorem d_M_count_52 : decode prog_10_method_38_code 52 = .ok (.getfield 212, 3) := by decide +kernel
theorem d_M_count_55 : decode prog_10_method_38_code 55 = .ok (.ifCond .ne (7), 3) := by decide +kernel
theorem d_M_count_58 : decode prog_10_method_38_code 58 = .ok (.iconst 0, 1) := by decide +kernel
theorem d_M_count_59 : decode prog_10_method_38_code 59 = .ok (.goto (15), 3) := by decide +kernel
theorem d_M_count_62 : decode prog_10_method_38_code 62 = .ok (.aload_n 0, 1) := by decide +kernel
theorem d_M_count_63 : decode prog_10_method_38_code 63 = .ok (.getfield 47, 3) := by decide +kernel
theorem d_M_count_66 : decode prog_10_method_38_code 66 = .ok (.bipush (99), 2) := by decide +kernel
theorem d_M_count_68 : decode prog_10_method_38_code 68 = .ok (.aload_n 0, 1) := by decide +kernel
theorem d_M_count_69 : decode prog_10_method_38_code 69 = .ok (.getfield 212, 3) := by decide +kernel
theorem d_M_count_72 : decode prog_10_method_38_code 72 = .ok (.iadd, 1) := by decide +kernel
theorem d_M_count_73 : decode prog_10_method_38_code 73 = .ok (.iaload, 1) := by decide +kernel
theorem d_M_count_74 : decode prog_10_method_38_code 74 = .ok (.ireturn, 1) := by decide +kernel
theorem d_M_count_75 : decode prog_10_method_38_code 75 = .ok (.iconst (-1), 1) := by decide +kernel
theorem d_M_count_76 : decode prog_10_method_38_code 76 = .ok (.ireturn, 1) := by decide +kernel
def b_M_count_74 (post : Int32 → zH → Prop) (s0 : Int32) (h : zH) : Prop := post s0 h
def wp_M_count (l1 : Int32) (h : zH) (post : Int32 → zH → Prop) : Prop := (∀ h1 : zH, h1 = zi h 39 0 0 → ((l1 = 0 → post (h1.1 39 1) h1) ∧ (¬ l1 = 0 → ((l1 = 1 → post (h1.1 39 23) h1) ∧ (¬ l1 = 1 → ((l1 = 2 → post (h1.1 39 6) h1) ∧ (¬ l1 = 2 → ((l1 = 3 → ((¬ (h1.1 39 23) = 0 → (vp_in (99 + (h1.1 39 23)) 200 ∧ b_M_count_74 post ((h1.1 52 ((99 + (h1.1 39 23)) : Int32).toNatClampNeg)) h1)) ∧ ((h1.1 39 23) = 0 → b_M_count_74 post (0) h1))) ∧ (¬ l1 = 3 → post (-1) h1)))))))))
set_option maxRecDepth 100000 in
set_option maxHeartbeats 4000000 in
theorem w_M_count_74 {l : Launch} {E : zE} {G : (Nat → Prop) → State → Prop} {p : Program} {e : Env} {s : State} {m : MethodId} {args : Array Value} {below : List Frame} {meth : Method} {c : Code} {A : Nat → Prop} {post : Int32 → zH → Prop} (hG : xGG E G) (C : zCx p s m args meth c E G A 0 0 prog_10_method_38_code 2 cn_M) (hr : meth.sig.returnType = (some .int))  (s0 : Int32) (h : zH) (hw : b_M_count_74 post s0 h) : zGo p l e s m args below meth c E A 0 0 2 (zPi post) h 74 [none, none] [.int s0] := by
  unfold b_M_count_74 at hw
  exact z_iret C hr d_M_count_74 hw
set_option maxRecDepth 100000 in
set_option maxHeartbeats 4000000 in
theorem t_M_count {l : Launch} {E : zE} {G : (Nat → Prop) → State → Prop} (hG : xGG E G) {l1 : Int32} {h : zH} {post : Int32 → zH → Prop} (hw : wp_M_count l1 h post) : Ct l xX E xcl xN zT G 0 0 y_M_count prog_10_method_38_code 2 (some .int) [.ref (E.2.2.1 39), .int l1] h (zPi post) := by
  unfold wp_M_count at hw
  refine Ct.of (by decide) (Nat.le_of_ble_eq_true rfl) ?_
  intro p e s m below meth c A C hr
  refine z_lv (lv2 := [some (.ref (E.2.2.1 39)), some (.int l1)]) rfl ?_
  refine z_aload_n C (i := 0) d_M_count_0 rfl rfl ?_
  refine z_iconst C (v := 0) d_M_count_1 (by decide) ?_
  refine z_putI C (ci := 8) (j := 0) (F := cf_M) ct_M (by decide) rfl rfl in_M ty_M nm_M (by decide) fl_M_68 rfl (by decide +kernel) rfl d_M_count_2 (fun h1 eh1 => ?_)
  replace hw := hw h1 eh1
  refine z_iload_n C (i := 1) d_M_count_5 rfl rfl ?_
  refine z_tcase C (off := 30) (tgt := 36) (0 : Int32) d_M_count_6 (by decide) (by decide) rfl (by decide) (fun q0 => ?_) (fun q0 => ?_)
  · replace hw := hw.1 q0
    refine z_aload_n C (i := 0) d_M_count_36 rfl rfl ?_
    refine z_getI C (ci := 8) (j := 1) (F := cf_M) (by decide) rfl rfl in_M (by decide) fl_M_72 rfl d_M_count_37 ?_
    exact z_iret C hr d_M_count_40 hw
  replace hw := hw.2 q0
  refine z_tcase C (off := 35) (tgt := 41) (1 : Int32) d_M_count_6 (by decide) (by decide) rfl (by decide) (fun q1 => ?_) (fun q1 => ?_)
  · replace hw := hw.1 q1
    refine z_aload_n C (i := 0) d_M_count_41 rfl rfl ?_
    refine z_getI C (ci := 8) (j := 23) (F := cf_M) (by decide) rfl rfl in_M (by decide) fl_M_212 rfl d_M_count_42 ?_
    exact z_iret C hr d_M_count_45 hw
  replace hw := hw.2 q1
  refine z_tcase C (off := 40) (tgt := 46) (2 : Int32) d_M_count_6 (by decide) (by decide) rfl (by decide) (fun q2 => ?_) (fun q2 => ?_)
  · replace hw := hw.1 q2
    refine z_aload_n C (i := 0) d_M_count_46 rfl rfl ?_
    refine z_getI C (ci := 8) (j := 6) (F := cf_M) (by decide) rfl rfl in_M (by decide) fl_M_83 rfl d_M_count_47 ?_
    exact z_iret C hr d_M_count_50 hw
  replace hw := hw.2 q2
  refine z_tcase C (off := 45) (tgt := 51) (3 : Int32) d_M_count_6 (by decide) (by decide) rfl (by decide) (fun q3 => ?_) (fun q3 => ?_)
  · replace hw := hw.1 q3
    refine z_aload_n C (i := 0) d_M_count_51 rfl rfl ?_
    refine z_getI C (ci := 8) (j := 23) (F := cf_M) (by decide) rfl rfl in_M (by decide) fl_M_212 rfl d_M_count_52 ?_
    refine z_if_ne C (tgt := 62) d_M_count_55 (by decide) (fun q => ?_) (fun q => ?_)
    · replace hw := hw.1 q
      refine z_aload_n C (i := 0) d_M_count_62 rfl rfl ?_
      refine z_getS C (ci := 8) (j := 20) (F := cf_M) (by decide) rfl rfl in_M (by decide) fl_M_47 rfl d_M_count_63 ?_
      refine z_bipush C (v := 99) d_M_count_66 (by decide) ?_
      refine z_aload_n C (i := 0) d_M_count_68 rfl rfl ?_
      refine z_getI C (ci := 8) (j := 23) (F := cf_M) (by decide) rfl rfl in_M (by decide) fl_M_212 rfl d_M_count_69 ?_
      refine z_iadd C d_M_count_72 ?_
      refine z_iald C (by decide) rfl hw.1 d_M_count_73 ?_
      replace hw := hw.2
      refine z_le (lv2 := [none, none]) (trivial) ?_
      exact w_M_count_74 hG C hr _ _ hw
    · replace hw := hw.2 q
      refine z_iconst C (v := 0) d_M_count_58 (by decide) ?_
      refine z_goto C (tgt := 74) d_M_count_59 (by decide) ?_
      refine z_le (lv2 := [none, none]) (trivial) ?_
      exact w_M_count_74 hG C hr _ _ hw
  replace hw := hw.2 q3
  refine z_tabOut C (tgt := 75) d_M_count_6 (by have e0 := lv_neT q0 (a := 0) rfl; have e1 := lv_neT q1 (a := 1) rfl; have e2 := lv_neT q2 (a := 2) rfl; have e3 := lv_neT q3 (a := 3) rfl; omega) (by decide) ?_
  refine z_iconst C (v := (-1)) d_M_count_75 (by decide) ?_
  exact z_iret C hr d_M_count_76 hw
theorem d_M_greater_0 : decode prog_10_method_20_code 0 = .ok (.lload_n 0, 1) := by decide +kernel
theorem d_M_greater_1 : decode prog_10_method_20_code 1 = .ok (.lload_n 2, 1) := by decide +kernel
theorem d_M_greater_2 : decode prog_10_method_20_code 2 = .ok (.lcmp, 1) := by decide +kernel
theorem d_M_greater_3 : decode prog_10_method_20_code 3 = .ok (.ifCond .le (7), 3) := by decide +kernel
theorem d_M_greater_6 : decode prog_10_method_20_code 6 = .ok (.lload_n 0, 1) := by decide +kernel
theorem d_M_greater_7 : decode prog_10_method_20_code 7 = .ok (.goto (4), 3) := by decide +kernel
theorem d_M_greater_10 : decode prog_10_method_20_code 10 = .ok (.lload_n 2, 1) := by decide +kernel
theorem d_M_greater_11 : decode prog_10_method_20_code 11 = .ok (.lreturn, 1) := by decide +kernel
def b_M_greater_11 (post : Int64 → zH → Prop) (s0 : Int64) (h : zH) : Prop := post s0 h
def wp_M_greater (l0 : Int64) (l2 : Int64) (h : zH) (post : Int64 → zH → Prop) : Prop := (((lg_cmp l0 l2) ≤ 0 → b_M_greater_11 post (l2) h) ∧ (¬ (lg_cmp l0 l2) ≤ 0 → b_M_greater_11 post (l0) h))
set_option maxRecDepth 100000 in
set_option maxHeartbeats 4000000 in
theorem w_M_greater_11 {l : Launch} {E : zE} {G : (Nat → Prop) → State → Prop} {p : Program} {e : Env} {s : State} {m : MethodId} {args : Array Value} {below : List Frame} {meth : Method} {c : Code} {A : Nat → Prop} {post : Int64 → zH → Prop} (hG : xGG E G) (C : zCx p s m args meth c E G A 0 0 prog_10_method_20_code 4 cn_M) (hr : meth.sig.returnType = (some .long))  (s0 : Int64) (h : zH) (hw : b_M_greater_11 post s0 h) : zGo p l e s m args below meth c E A 0 0 4 (zPl post) h 11 [none, none, none, none] [.long s0] := by
  unfold b_M_greater_11 at hw
  exact z_lret C hr d_M_greater_11 hw
set_option maxRecDepth 100000 in
set_option maxHeartbeats 4000000 in
theorem t_M_greater {l : Launch} {E : zE} {G : (Nat → Prop) → State → Prop} (hG : xGG E G) {l0 : Int64} {l2 : Int64} {h : zH} {post : Int64 → zH → Prop} (hw : wp_M_greater l0 l2 h post) : Ct l xX E xcl xN zT G 0 0 y_M_greater prog_10_method_20_code 4 (some .long) [.long l0, .long l2] h (zPl post) := by
  unfold wp_M_greater at hw
  refine Ct.of (by decide) (Nat.le_of_ble_eq_true rfl) ?_
  intro p e s m below meth c A C hr
  refine z_lv (lv2 := [some (.long l0), none, some (.long l2), none]) rfl ?_
  refine z_lload_n C (i := 0) d_M_greater_0 rfl rfl ?_
  refine z_lload_n C (i := 2) d_M_greater_1 rfl rfl ?_
  refine z_lcmp C d_M_greater_2 ?_
  refine z_if_le C (tgt := 10) d_M_greater_3 (by decide) (fun q => ?_) (fun q => ?_)
  · replace hw := hw.1 q
    refine z_lload_n C (i := 2) d_M_greater_10 rfl rfl ?_
    refine z_le (lv2 := [none, none, none, none]) (trivial) ?_
    exact w_M_greater_11 hG C hr _ _ hw
  · replace hw := hw.2 q
    refine z_lload_n C (i := 0) d_M_greater_6 rfl rfl ?_
    refine z_goto C (tgt := 11) d_M_greater_7 (by decide) ?_
    refine z_le (lv2 := [none, none, none, none]) (trivial) ?_
    exact w_M_greater_11 hG C hr _ _ hw
theorem d_M_lesser_0 : decode prog_10_method_19_code 0 = .ok (.lload_n 0, 1) := by decide +kernel
theorem d_M_lesser_1 : decode prog_10_method_19_code 1 = .ok (.lload_n 2, 1) := by decide +kernel
theorem d_M_lesser_2 : decode prog_10_method_19_code 2 = .ok (.lcmp, 1) := by decide +kernel
theorem d_M_lesser_3 : decode prog_10_method_19_code 3 = .ok (.ifCond .ge (7), 3) := by decide +kernel
theorem d_M_lesser_6 : decode prog_10_method_19_code 6 = .ok (.lload_n 0, 1) := by decide +kernel
theorem d_M_lesser_7 : decode prog_10_method_19_code 7 = .ok (.goto (4), 3) := by decide +kernel
theorem d_M_lesser_10 : decode prog_10_method_19_code 10 = .ok (.lload_n 2, 1) := by decide +kernel
theorem d_M_lesser_11 : decode prog_10_method_19_code 11 = .ok (.lreturn, 1) := by decide +kernel
def b_M_lesser_11 (post : Int64 → zH → Prop) (s0 : Int64) (h : zH) : Prop := post s0 h
def wp_M_lesser (l0 : Int64) (l2 : Int64) (h : zH) (post : Int64 → zH → Prop) : Prop := ((0 ≤ (lg_cmp l0 l2) → b_M_lesser_11 post (l2) h) ∧ (¬ 0 ≤ (lg_cmp l0 l2) → b_M_lesser_11 post (l0) h))
set_option maxRecDepth 100000 in
set_option maxHeartbeats 4000000 in
theorem w_M_lesser_11 {l : Launch} {E : zE} {G : (Nat → Prop) → State → Prop} {p : Program} {e : Env} {s : State} {m : MethodId} {args : Array Value} {below : List Frame} {meth : Method} {c : Code} {A : Nat → Prop} {post : Int64 → zH → Prop} (hG : xGG E G) (C : zCx p s m args meth c E G A 0 0 prog_10_method_19_code 4 cn_M) (hr : meth.sig.returnType = (some .long))  (s0 : Int64) (h : zH) (hw : b_M_lesser_11 post s0 h) : zGo p l e s m args below meth c E A 0 0 4 (zPl post) h 11 [none, none, none, none] [.long s0] := by
  unfold b_M_lesser_11 at hw
  exact z_lret C hr d_M_lesser_11 hw
set_option maxRecDepth 100000 in
set_option maxHeartbeats 4000000 in
theorem t_M_lesser {l : Launch} {E : zE} {G : (Nat → Prop) → State → Prop} (hG : xGG E G) {l0 : Int64} {l2 : Int64} {h : zH} {post : Int64 → zH → Prop} (hw : wp_M_lesser l0 l2 h post) : Ct l xX E xcl xN zT G 0 0 y_M_lesser prog_10_method_19_code 4 (some .long) [.long l0, .long l2] h (zPl post) := by
  unfold wp_M_lesser at hw
  refine Ct.of (by decide) (Nat.le_of_ble_eq_true rfl) ?_
  intro p e s m below meth c A C hr
  refine z_lv (lv2 := [some (.long l0), none, some (.long l2), none]) rfl ?_
  refine z_lload_n C (i := 0) d_M_lesser_0 rfl rfl ?_
  refine z_lload_n C (i := 2) d_M_lesser_1 rfl rfl ?_
  refine z_lcmp C d_M_lesser_2 ?_
  refine z_if_ge C (tgt := 10) d_M_lesser_3 (by decide) (fun q => ?_) (fun q => ?_)
  · replace hw := hw.1 q
    refine z_lload_n C (i := 2) d_M_lesser_10 rfl rfl ?_
    refine z_le (lv2 := [none, none, none, none]) (trivial) ?_
    exact w_M_lesser_11 hG C hr _ _ hw
  · replace hw := hw.2 q
    refine z_lload_n C (i := 0) d_M_lesser_6 rfl rfl ?_
    refine z_goto C (tgt := 11) d_M_lesser_7 (by decide) ?_
    refine z_le (lv2 := [none, none, none, none]) (trivial) ?_
    exact w_M_lesser_11 hG C hr _ _ hw
theorem d_M_ends_0 : decode prog_10_method_22_code 0 = .ok (.aload_n 0, 1) := by decide +kernel
theorem d_M_ends_1 : decode prog_10_method_22_code 1 = .ok (.lload_n 1, 1) := by decide +kernel
theorem d_M_ends_2 : decode prog_10_method_22_code 2 = .ok (.lload_n 3, 1) := by decide +kernel
theorem d_M_ends_3 : decode prog_10_method_22_code 3 = .ok (.invokestatic 140, 3) := by decide +kernel
theorem d_M_ends_6 : decode prog_10_method_22_code 6 = .ok (.lload 5, 2) := by decide +kernel
theorem d_M_ends_8 : decode prog_10_method_22_code 8 = .ok (.lload 7, 2) := by decide +kernel
theorem d_M_ends_10 : decode prog_10_method_22_code 10 = .ok (.invokestatic 140, 3) := by decide +kernel
theorem d_M_ends_13 : decode prog_10_method_22_code 13 = .ok (.invokestatic 140, 3) := by decide +kernel
theorem d_M_ends_16 : decode prog_10_method_22_code 16 = .ok (.putfield 144, 3) := by decide +kernel
theorem d_M_ends_19 : decode prog_10_method_22_code 19 = .ok (.aload_n 0, 1) := by decide +kernel
theorem d_M_ends_20 : decode prog_10_method_22_code 20 = .ok (.lload_n 1, 1) := by decide +kernel
theorem d_M_ends_21 : decode prog_10_method_22_code 21 = .ok (.lload_n 3, 1) := by decide +kernel
theorem d_M_ends_22 : decode prog_10_method_22_code 22 = .ok (.invokestatic 147, 3) := by decide +kernel
theorem d_M_ends_25 : decode prog_10_method_22_code 25 = .ok (.lload 5, 2) := by decide +kernel
theorem d_M_ends_27 : decode prog_10_method_22_code 27 = .ok (.lload 7, 2) := by decide +kernel
theorem d_M_ends_29 : decode prog_10_method_22_code 29 = .ok (.invokestatic 147, 3) := by decide +kernel
theorem d_M_ends_32 : decode prog_10_method_22_code 32 = .ok (.invokestatic 147, 3) := by decide +kernel
theorem d_M_ends_35 : decode prog_10_method_22_code 35 = .ok (.putfield 150, 3) := by decide +kernel
theorem d_M_ends_38 : decode prog_10_method_22_code 38 = .ok (.return_, 1) := by decide +kernel
def wp_M_ends (l1 : Int64) (l3 : Int64) (l5 : Int64) (l7 : Int64) (h : zH) (post : zH → Prop) : Prop := wp_M_lesser (l1) (l3) h (fun (r1 : Int64) (h2 : zH) => wp_M_lesser (l5) (l7) h2 (fun (r3 : Int64) (h4 : zH) => wp_M_lesser (r1) (r3) h4 (fun (r5 : Int64) (h6 : zH) => (∀ h7 : zH, h7 = zl h6 39 32 r5 → wp_M_greater (l1) (l3) h7 (fun (r8 : Int64) (h9 : zH) => wp_M_greater (l5) (l7) h9 (fun (r10 : Int64) (h11 : zH) => wp_M_greater (r8) (r10) h11 (fun (r12 : Int64) (h13 : zH) => (∀ h14 : zH, h14 = zl h13 39 33 r12 → post h14))))))))
set_option maxRecDepth 100000 in
set_option maxHeartbeats 4000000 in
theorem t_M_ends {l : Launch} {E : zE} {G : (Nat → Prop) → State → Prop} (hG : xGG E G) {l1 : Int64} {l3 : Int64} {l5 : Int64} {l7 : Int64} {h : zH} {post : zH → Prop} (hw : wp_M_ends l1 l3 l5 l7 h post) : Ct l xX E xcl xN zT G 1 23 y_M_ends prog_10_method_22_code 9 none [.ref (E.2.2.1 39), .long l1, .long l3, .long l5, .long l7] h (zPv post) := by
  unfold wp_M_ends at hw
  refine Ct.of (by decide) (Nat.le_of_ble_eq_true rfl) ?_
  intro p e s m below meth c A C hr
  refine z_lv (lv2 := [some (.ref (E.2.2.1 39)), some (.long l1), none, some (.long l3), none, some (.long l5), none, some (.long l7), none]) rfl ?_
  refine z_aload_n C (i := 0) d_M_ends_0 rfl rfl ?_
  refine z_lload_n C (i := 1) d_M_ends_1 rfl rfl ?_
  refine z_lload_n C (i := 3) d_M_ends_2 rfl rfl ?_
  refine z_callSl ⟨xN_ok, hG.1⟩ zT_good C (t_M_lesser hG hw) ol_M_140 (by decide) (by decide) pl_M_lesser rfl rfl (Nat.le_of_ble_eq_true rfl) d_M_ends_3 (fun r1 h2 hw => ?_)
  refine z_lload C d_M_ends_6 rfl ?_
  refine z_lload C d_M_ends_8 rfl ?_
  refine z_callSl ⟨xN_ok, hG.1⟩ zT_good C (t_M_lesser hG hw) ol_M_140 (by decide) (by decide) pl_M_lesser rfl rfl (Nat.le_of_ble_eq_true rfl) d_M_ends_10 (fun r3 h4 hw => ?_)
  refine z_callSl ⟨xN_ok, hG.1⟩ zT_good C (t_M_lesser hG hw) ol_M_140 (by decide) (by decide) pl_M_lesser rfl rfl (Nat.le_of_ble_eq_true rfl) d_M_ends_13 (fun r5 h6 hw => ?_)
  refine z_putL C (ci := 8) (j := 32) (F := cf_M) ct_M (by decide) rfl rfl in_M ty_M nm_M (by decide) fl_M_144 rfl (by decide +kernel) rfl d_M_ends_16 (fun h7 eh7 => ?_)
  replace hw := hw h7 eh7
  refine z_aload_n C (i := 0) d_M_ends_19 rfl rfl ?_
  refine z_lload_n C (i := 1) d_M_ends_20 rfl rfl ?_
  refine z_lload_n C (i := 3) d_M_ends_21 rfl rfl ?_
  refine z_callSl ⟨xN_ok, hG.1⟩ zT_good C (t_M_greater hG hw) ol_M_147 (by decide) (by decide) pl_M_greater rfl rfl (Nat.le_of_ble_eq_true rfl) d_M_ends_22 (fun r8 h9 hw => ?_)
  refine z_lload C d_M_ends_25 rfl ?_
  refine z_lload C d_M_ends_27 rfl ?_
  refine z_callSl ⟨xN_ok, hG.1⟩ zT_good C (t_M_greater hG hw) ol_M_147 (by decide) (by decide) pl_M_greater rfl rfl (Nat.le_of_ble_eq_true rfl) d_M_ends_29 (fun r10 h11 hw => ?_)
  refine z_callSl ⟨xN_ok, hG.1⟩ zT_good C (t_M_greater hG hw) ol_M_147 (by decide) (by decide) pl_M_greater rfl rfl (Nat.le_of_ble_eq_true rfl) d_M_ends_32 (fun r12 h13 hw => ?_)
  refine z_putL C (ci := 8) (j := 33) (F := cf_M) ct_M (by decide) rfl rfl in_M ty_M nm_M (by decide) fl_M_150 rfl (by decide +kernel) rfl d_M_ends_35 (fun h14 eh14 => ?_)
  replace hw := hw h14 eh14
  exact z_vret C hr d_M_ends_38 hw
theorem d_M_pop_0 : decode prog_10_method_18_code 0 = .ok (.aload_n 0, 1) := by decide +kernel
theorem d_M_pop_1 : decode prog_10_method_18_code 1 = .ok (.dup, 1) := by decide +kernel
theorem d_M_pop_2 : decode prog_10_method_18_code 2 = .ok (.getfield 137, 3) := by decide +kernel
theorem d_M_pop_5 : decode prog_10_method_18_code 5 = .ok (.iconst 1, 1) := by decide +kernel
theorem d_M_pop_6 : decode prog_10_method_18_code 6 = .ok (.isub, 1) := by decide +kernel
theorem d_M_pop_7 : decode prog_10_method_18_code 7 = .ok (.putfield 137, 3) := by decide +kernel
theorem d_M_pop_10 : decode prog_10_method_18_code 10 = .ok (.aload_n 0, 1) := by decide +kernel
theorem d_M_pop_11 : decode prog_10_method_18_code 11 = .ok (.getfield 62, 3) := by decide +kernel
theorem d_M_pop_14 : decode prog_10_method_18_code 14 = .ok (.aload_n 0, 1) := by decide +kernel
theorem d_M_pop_15 : decode prog_10_method_18_code 15 = .ok (.getfield 137, 3) := by decide +kernel
theorem d_M_pop_18 : decode prog_10_method_18_code 18 = .ok (.iaload, 1) := by decide +kernel
theorem d_M_pop_19 : decode prog_10_method_18_code 19 = .ok (.ireturn, 1) := by decide +kernel
def wp_M_pop (h : zH) (post : Int32 → zH → Prop) : Prop := (∀ h1 : zH, h1 = zi h 39 30 ((h.1 39 30) - 1) → (vp_in (h1.1 39 30) 300 ∧ post (h1.1 57 ((h1.1 39 30) : Int32).toNatClampNeg) h1))
set_option maxRecDepth 100000 in
set_option maxHeartbeats 4000000 in
theorem t_M_pop {l : Launch} {E : zE} {G : (Nat → Prop) → State → Prop} (hG : xGG E G) {h : zH} {post : Int32 → zH → Prop} (hw : wp_M_pop  h post) : Ct l xX E xcl xN zT G 0 0 y_M_pop prog_10_method_18_code 1 (some .int) [.ref (E.2.2.1 39)] h (zPi post) := by
  unfold wp_M_pop at hw
  refine Ct.of (by decide) (Nat.le_of_ble_eq_true rfl) ?_
  intro p e s m below meth c A C hr
  refine z_lv (lv2 := [some (.ref (E.2.2.1 39))]) rfl ?_
  refine z_aload_n C (i := 0) d_M_pop_0 rfl rfl ?_
  refine z_dup C d_M_pop_1 rfl ?_
  refine z_getI C (ci := 8) (j := 30) (F := cf_M) (by decide) rfl rfl in_M (by decide) fl_M_137 rfl d_M_pop_2 ?_
  refine z_iconst C (v := 1) d_M_pop_5 (by decide) ?_
  refine z_isub C d_M_pop_6 ?_
  refine z_putI C (ci := 8) (j := 30) (F := cf_M) ct_M (by decide) rfl rfl in_M ty_M nm_M (by decide) fl_M_137 rfl (by decide +kernel) rfl d_M_pop_7 (fun h1 eh1 => ?_)
  replace hw := hw h1 eh1
  refine z_aload_n C (i := 0) d_M_pop_10 rfl rfl ?_
  refine z_getS C (ci := 8) (j := 29) (F := cf_M) (by decide) rfl rfl in_M (by decide) fl_M_62 rfl d_M_pop_11 ?_
  refine z_aload_n C (i := 0) d_M_pop_14 rfl rfl ?_
  refine z_getI C (ci := 8) (j := 30) (F := cf_M) (by decide) rfl rfl in_M (by decide) fl_M_137 rfl d_M_pop_15 ?_
  refine z_iald C (by decide) rfl hw.1 d_M_pop_18 ?_
  replace hw := hw.2
  exact z_iret C hr d_M_pop_19 hw
theorem d_M_rank_0 : decode prog_10_method_11_code 0 = .ok (.iload_n 0, 1) := by decide +kernel
theorem d_M_rank_1 : decode prog_10_method_11_code 1 = .ok (.lookupswitch (126) #[(37, 115), (42, 115), (43, 118), (45, 118), (47, 115), (60, 120), (62, 120), (200, 120), (201, 120), (202, 120), (203, 120), (204, 122), (205, 124)], 115) := by decide +kernel
theorem d_M_rank_116 : decode prog_10_method_11_code 116 = .ok (.bipush (6), 2) := by decide +kernel
theorem d_M_rank_118 : decode prog_10_method_11_code 118 = .ok (.ireturn, 1) := by decide +kernel
theorem d_M_rank_119 : decode prog_10_method_11_code 119 = .ok (.iconst 5, 1) := by decide +kernel
theorem d_M_rank_120 : decode prog_10_method_11_code 120 = .ok (.ireturn, 1) := by decide +kernel
theorem d_M_rank_121 : decode prog_10_method_11_code 121 = .ok (.iconst 4, 1) := by decide +kernel
theorem d_M_rank_122 : decode prog_10_method_11_code 122 = .ok (.ireturn, 1) := by decide +kernel
theorem d_M_rank_123 : decode prog_10_method_11_code 123 = .ok (.iconst 3, 1) := by decide +kernel
theorem d_M_rank_124 : decode prog_10_method_11_code 124 = .ok (.ireturn, 1) := by decide +kernel
theorem d_M_rank_125 : decode prog_10_method_11_code 125 = .ok (.iconst 2, 1) := by decide +kernel
theorem d_M_rank_126 : decode prog_10_method_11_code 126 = .ok (.ireturn, 1) := by decide +kernel
theorem d_M_rank_127 : decode prog_10_method_11_code 127 = .ok (.iconst 0, 1) := by decide +kernel
theorem d_M_rank_128 : decode prog_10_method_11_code 128 = .ok (.ireturn, 1) := by decide +kernel
def b_M_rank_116 (post : Int32 → zH → Prop) (h : zH) : Prop := post 6 h
def b_M_rank_119 (post : Int32 → zH → Prop) (h : zH) : Prop := post 5 h
def b_M_rank_121 (post : Int32 → zH → Prop) (h : zH) : Prop := post 4 h
def wp_M_rank (l0 : Int32) (h : zH) (post : Int32 → zH → Prop) : Prop := ((l0 = 37 → b_M_rank_116 post  h) ∧ (¬ l0 = 37 → ((l0 = 42 → b_M_rank_116 post  h) ∧ (¬ l0 = 42 → ((l0 = 43 → b_M_rank_119 post  h) ∧ (¬ l0 = 43 → ((l0 = 45 → b_M_rank_119 post  h) ∧ (¬ l0 = 45 → ((l0 = 47 → b_M_rank_116 post  h) ∧ (¬ l0 = 47 → ((l0 = 60 → b_M_rank_121 post  h) ∧ (¬ l0 = 60 → ((l0 = 62 → b_M_rank_121 post  h) ∧ (¬ l0 = 62 → ((l0 = 200 → b_M_rank_121 post  h) ∧ (¬ l0 = 200 → ((l0 = 201 → b_M_rank_121 post  h) ∧ (¬ l0 = 201 → ((l0 = 202 → b_M_rank_121 post  h) ∧ (¬ l0 = 202 → ((l0 = 203 → b_M_rank_121 post  h) ∧ (¬ l0 = 203 → ((l0 = 204 → post 3 h) ∧ (¬ l0 = 204 → ((l0 = 205 → post 2 h) ∧ (¬ l0 = 205 → post 0 h))))))))))))))))))))))))))
set_option maxRecDepth 100000 in
set_option maxHeartbeats 4000000 in
theorem w_M_rank_116 {l : Launch} {E : zE} {G : (Nat → Prop) → State → Prop} {p : Program} {e : Env} {s : State} {m : MethodId} {args : Array Value} {below : List Frame} {meth : Method} {c : Code} {A : Nat → Prop} {post : Int32 → zH → Prop} (hG : xGG E G) (C : zCx p s m args meth c E G A 0 0 prog_10_method_11_code 1 cn_M) (hr : meth.sig.returnType = (some .int))  (h : zH) (hw : b_M_rank_116 post  h) : zGo p l e s m args below meth c E A 0 0 1 (zPi post) h 116 [none] [] := by
  unfold b_M_rank_116 at hw
  refine z_bipush C (v := 6) d_M_rank_116 (by decide) ?_
  exact z_iret C hr d_M_rank_118 hw
set_option maxRecDepth 100000 in
set_option maxHeartbeats 4000000 in
theorem w_M_rank_119 {l : Launch} {E : zE} {G : (Nat → Prop) → State → Prop} {p : Program} {e : Env} {s : State} {m : MethodId} {args : Array Value} {below : List Frame} {meth : Method} {c : Code} {A : Nat → Prop} {post : Int32 → zH → Prop} (hG : xGG E G) (C : zCx p s m args meth c E G A 0 0 prog_10_method_11_code 1 cn_M) (hr : meth.sig.returnType = (some .int))  (h : zH) (hw : b_M_rank_119 post  h) : zGo p l e s m args below meth c E A 0 0 1 (zPi post) h 119 [none] [] := by
  unfold b_M_rank_119 at hw
  refine z_iconst C (v := 5) d_M_rank_119 (by decide) ?_
  exact z_iret C hr d_M_rank_120 hw
set_option maxRecDepth 100000 in
set_option maxHeartbeats 4000000 in
theorem w_M_rank_121 {l : Launch} {E : zE} {G : (Nat → Prop) → State → Prop} {p : Program} {e : Env} {s : State} {m : MethodId} {args : Array Value} {below : List Frame} {meth : Method} {c : Code} {A : Nat → Prop} {post : Int32 → zH → Prop} (hG : xGG E G) (C : zCx p s m args meth c E G A 0 0 prog_10_method_11_code 1 cn_M) (hr : meth.sig.returnType = (some .int))  (h : zH) (hw : b_M_rank_121 post  h) : zGo p l e s m args below meth c E A 0 0 1 (zPi post) h 121 [none] [] := by
  unfold b_M_rank_121 at hw
  refine z_iconst C (v := 4) d_M_rank_121 (by decide) ?_
  exact z_iret C hr d_M_rank_122 hw
set_option maxRecDepth 100000 in
set_option maxHeartbeats 4000000 in
theorem t_M_rank {l : Launch} {E : zE} {G : (Nat → Prop) → State → Prop} (hG : xGG E G) {l0 : Int32} {h : zH} {post : Int32 → zH → Prop} (hw : wp_M_rank l0 h post) : Ct l xX E xcl xN zT G 0 0 y_M_rank prog_10_method_11_code 1 (some .int) [.int l0] h (zPi post) := by
  unfold wp_M_rank at hw
  refine Ct.of (by decide) (Nat.le_of_ble_eq_true rfl) ?_
  intro p e s m below meth c A C hr
  refine z_lv (lv2 := [some (.int l0)]) rfl ?_
  refine z_iload_n C (i := 0) d_M_rank_0 rfl rfl ?_
  refine z_lcase C (off := 115) (tgt := 116) (37 : Int32) d_M_rank_1 (by decide) (by decide) (by decide) (fun q0 => ?_) (fun q0 => ?_)
  · replace hw := hw.1 q0
    refine z_le (lv2 := [none]) (trivial) ?_
    exact w_M_rank_116 hG C hr  _ hw
  replace hw := hw.2 q0
  refine z_lcase C (off := 115) (tgt := 116) (42 : Int32) d_M_rank_1 (by decide) (by decide) (by decide) (fun q1 => ?_) (fun q1 => ?_)
  · replace hw := hw.1 q1
    refine z_le (lv2 := [none]) (trivial) ?_
    exact w_M_rank_116 hG C hr  _ hw
  replace hw := hw.2 q1
  refine z_lcase C (off := 118) (tgt := 119) (43 : Int32) d_M_rank_1 (by decide) (by decide) (by decide) (fun q2 => ?_) (fun q2 => ?_)
  · replace hw := hw.1 q2
    refine z_le (lv2 := [none]) (trivial) ?_
    exact w_M_rank_119 hG C hr  _ hw
  replace hw := hw.2 q2
  refine z_lcase C (off := 118) (tgt := 119) (45 : Int32) d_M_rank_1 (by decide) (by decide) (by decide) (fun q3 => ?_) (fun q3 => ?_)
  · replace hw := hw.1 q3
    refine z_le (lv2 := [none]) (trivial) ?_
    exact w_M_rank_119 hG C hr  _ hw
  replace hw := hw.2 q3
  refine z_lcase C (off := 115) (tgt := 116) (47 : Int32) d_M_rank_1 (by decide) (by decide) (by decide) (fun q4 => ?_) (fun q4 => ?_)
  · replace hw := hw.1 q4
    refine z_le (lv2 := [none]) (trivial) ?_
    exact w_M_rank_116 hG C hr  _ hw
  replace hw := hw.2 q4
  refine z_lcase C (off := 120) (tgt := 121) (60 : Int32) d_M_rank_1 (by decide) (by decide) (by decide) (fun q5 => ?_) (fun q5 => ?_)
  · replace hw := hw.1 q5
    refine z_le (lv2 := [none]) (trivial) ?_
    exact w_M_rank_121 hG C hr  _ hw
  replace hw := hw.2 q5
  refine z_lcase C (off := 120) (tgt := 121) (62 : Int32) d_M_rank_1 (by decide) (by decide) (by decide) (fun q6 => ?_) (fun q6 => ?_)
  · replace hw := hw.1 q6
    refine z_le (lv2 := [none]) (trivial) ?_
    exact w_M_rank_121 hG C hr  _ hw
  replace hw := hw.2 q6
  refine z_lcase C (off := 120) (tgt := 121) (200 : Int32) d_M_rank_1 (by decide) (by decide) (by decide) (fun q7 => ?_) (fun q7 => ?_)
  · replace hw := hw.1 q7
    refine z_le (lv2 := [none]) (trivial) ?_
    exact w_M_rank_121 hG C hr  _ hw
  replace hw := hw.2 q7
  refine z_lcase C (off := 120) (tgt := 121) (201 : Int32) d_M_rank_1 (by decide) (by decide) (by decide) (fun q8 => ?_) (fun q8 => ?_)
  · replace hw := hw.1 q8
    refine z_le (lv2 := [none]) (trivial) ?_
    exact w_M_rank_121 hG C hr  _ hw
  replace hw := hw.2 q8
  refine z_lcase C (off := 120) (tgt := 121) (202 : Int32) d_M_rank_1 (by decide) (by decide) (by decide) (fun q9 => ?_) (fun q9 => ?_)
  · replace hw := hw.1 q9
    refine z_le (lv2 := [none]) (trivial) ?_
    exact w_M_rank_121 hG C hr  _ hw
  replace hw := hw.2 q9
  refine z_lcase C (off := 120) (tgt := 121) (203 : Int32) d_M_rank_1 (by decide) (by decide) (by decide) (fun q10 => ?_) (fun q10 => ?_)
  · replace hw := hw.1 q10
    refine z_le (lv2 := [none]) (trivial) ?_
    exact w_M_rank_121 hG C hr  _ hw
  replace hw := hw.2 q10
  refine z_lcase C (off := 122) (tgt := 123) (204 : Int32) d_M_rank_1 (by decide) (by decide) (by decide) (fun q11 => ?_) (fun q11 => ?_)
  · replace hw := hw.1 q11
    refine z_iconst C (v := 3) d_M_rank_123 (by decide) ?_
    exact z_iret C hr d_M_rank_124 hw
  replace hw := hw.2 q11
  refine z_lcase C (off := 124) (tgt := 125) (205 : Int32) d_M_rank_1 (by decide) (by decide) (by decide) (fun q12 => ?_) (fun q12 => ?_)
  · replace hw := hw.1 q12
    refine z_iconst C (v := 2) d_M_rank_125 (by decide) ?_
    exact z_iret C hr d_M_rank_126 hw
  replace hw := hw.2 q12
  refine z_lookup C (off := 126) (tgt := 127) d_M_rank_1 (by decide) (by show Op.lookupswitch.offset [(37, 115), (42, 115), (43, 118), (45, 118), (47, 115), (60, 120), (62, 120), (200, 120), (201, 120), (202, 120), (203, 120), (204, 122), (205, 124)] (126) _ = (126); rw [lv_osw q0 (a := 37) rfl, lv_osw q1 (a := 42) rfl, lv_osw q2 (a := 43) rfl, lv_osw q3 (a := 45) rfl, lv_osw q4 (a := 47) rfl, lv_osw q5 (a := 60) rfl, lv_osw q6 (a := 62) rfl, lv_osw q7 (a := 200) rfl, lv_osw q8 (a := 201) rfl, lv_osw q9 (a := 202) rfl, lv_osw q10 (a := 203) rfl, lv_osw q11 (a := 204) rfl, lv_osw q12 (a := 205) rfl]; rfl) (by decide) ?_
  refine z_iconst C (v := 0) d_M_rank_127 (by decide) ?_
  exact z_iret C hr d_M_rank_128 hw
theorem d_M_size_0 : decode prog_10_method_21_code 0 = .ok (.lload_n 0, 1) := by decide +kernel
theorem d_M_size_1 : decode prog_10_method_21_code 1 = .ok (.lconst 0, 1) := by decide +kernel
theorem d_M_size_2 : decode prog_10_method_21_code 2 = .ok (.lcmp, 1) := by decide +kernel
theorem d_M_size_3 : decode prog_10_method_21_code 3 = .ok (.ifCond .ge (8), 3) := by decide +kernel
theorem d_M_size_6 : decode prog_10_method_21_code 6 = .ok (.lload_n 0, 1) := by decide +kernel
theorem d_M_size_7 : decode prog_10_method_21_code 7 = .ok (.lneg, 1) := by decide +kernel
theorem d_M_size_8 : decode prog_10_method_21_code 8 = .ok (.goto (4), 3) := by decide +kernel
theorem d_M_size_11 : decode prog_10_method_21_code 11 = .ok (.lload_n 0, 1) := by decide +kernel
theorem d_M_size_12 : decode prog_10_method_21_code 12 = .ok (.lreturn, 1) := by decide +kernel
def b_M_size_12 (post : Int64 → zH → Prop) (s0 : Int64) (h : zH) : Prop := post s0 h
def wp_M_size (l0 : Int64) (h : zH) (post : Int64 → zH → Prop) : Prop := ((0 ≤ (lg_cmp l0 0) → b_M_size_12 post (l0) h) ∧ (¬ 0 ≤ (lg_cmp l0 0) → b_M_size_12 post ((-l0)) h))
set_option maxRecDepth 100000 in
set_option maxHeartbeats 4000000 in
theorem w_M_size_12 {l : Launch} {E : zE} {G : (Nat → Prop) → State → Prop} {p : Program} {e : Env} {s : State} {m : MethodId} {args : Array Value} {below : List Frame} {meth : Method} {c : Code} {A : Nat → Prop} {post : Int64 → zH → Prop} (hG : xGG E G) (C : zCx p s m args meth c E G A 0 0 prog_10_method_21_code 2 cn_M) (hr : meth.sig.returnType = (some .long))  (s0 : Int64) (h : zH) (hw : b_M_size_12 post s0 h) : zGo p l e s m args below meth c E A 0 0 2 (zPl post) h 12 [none, none] [.long s0] := by
  unfold b_M_size_12 at hw
  exact z_lret C hr d_M_size_12 hw
set_option maxRecDepth 100000 in
set_option maxHeartbeats 4000000 in
theorem t_M_size {l : Launch} {E : zE} {G : (Nat → Prop) → State → Prop} (hG : xGG E G) {l0 : Int64} {h : zH} {post : Int64 → zH → Prop} (hw : wp_M_size l0 h post) : Ct l xX E xcl xN zT G 0 0 y_M_size prog_10_method_21_code 2 (some .long) [.long l0] h (zPl post) := by
  unfold wp_M_size at hw
  refine Ct.of (by decide) (Nat.le_of_ble_eq_true rfl) ?_
  intro p e s m below meth c A C hr
  refine z_lv (lv2 := [some (.long l0), none]) rfl ?_
  refine z_lload_n C (i := 0) d_M_size_0 rfl rfl ?_
  refine z_lconst C (v := 0) d_M_size_1 (by decide) ?_
  refine z_lcmp C d_M_size_2 ?_
  refine z_if_ge C (tgt := 11) d_M_size_3 (by decide) (fun q => ?_) (fun q => ?_)
  · replace hw := hw.1 q
    refine z_lload_n C (i := 0) d_M_size_11 rfl rfl ?_
    refine z_le (lv2 := [none, none]) (trivial) ?_
    exact w_M_size_12 hG C hr _ _ hw
  · replace hw := hw.2 q
    refine z_lload_n C (i := 0) d_M_size_6 rfl rfl ?_
    refine z_lneg C d_M_size_7 ?_
    refine z_goto C (tgt := 12) d_M_size_8 (by decide) ?_
    refine z_le (lv2 := [none, none]) (trivial) ?_
    exact w_M_size_12 hG C hr _ _ hw
theorem d_M_doTwo_0 : decode prog_10_method_23_code 0 = .ok (.aload_n 0, 1) := by decide +kernel
theorem d_M_doTwo_1 : decode prog_10_method_23_code 1 = .ok (.invokevirtual 153, 3) := by decide +kernel
theorem d_M_doTwo_4 : decode prog_10_method_23_code 4 = .ok (.istore_n 3, 1) := by decide +kernel
theorem d_M_doTwo_5 : decode prog_10_method_23_code 5 = .ok (.aload_n 0, 1) := by decide +kernel
theorem d_M_doTwo_6 : decode prog_10_method_23_code 6 = .ok (.invokevirtual 153, 3) := by decide +kernel
theorem d_M_doTwo_9 : decode prog_10_method_23_code 9 = .ok (.istore 4, 2) := by decide +kernel
theorem d_M_doTwo_11 : decode prog_10_method_23_code 11 = .ok (.aload_n 0, 1) := by decide +kernel
theorem d_M_doTwo_12 : decode prog_10_method_23_code 12 = .ok (.getfield 28, 3) := by decide +kernel
theorem d_M_doTwo_15 : decode prog_10_method_23_code 15 = .ok (.iload 4, 2) := by decide +kernel
theorem d_M_doTwo_17 : decode prog_10_method_23_code 17 = .ok (.iaload, 1) := by decide +kernel
theorem d_M_doTwo_18 : decode prog_10_method_23_code 18 = .ok (.ifCond .ne (16), 3) := by decide +kernel
theorem d_M_doTwo_21 : decode prog_10_method_23_code 21 = .ok (.aload_n 0, 1) := by decide +kernel
theorem d_M_doTwo_22 : decode prog_10_method_23_code 22 = .ok (.getfield 28, 3) := by decide +kernel
theorem d_M_doTwo_25 : decode prog_10_method_23_code 25 = .ok (.iload_n 3, 1) := by decide +kernel
theorem d_M_doTwo_26 : decode prog_10_method_23_code 26 = .ok (.iaload, 1) := by decide +kernel
theorem d_M_doTwo_27 : decode prog_10_method_23_code 27 = .ok (.ifCond .ne (7), 3) := by decide +kernel
theorem d_M_doTwo_30 : decode prog_10_method_23_code 30 = .ok (.iconst 1, 1) := by decide +kernel
theorem d_M_doTwo_31 : decode prog_10_method_23_code 31 = .ok (.goto (4), 3) := by decide +kernel
theorem d_M_doTwo_34 : decode prog_10_method_23_code 34 = .ok (.iconst 0, 1) := by decide +kernel
theorem d_M_doTwo_35 : decode prog_10_method_23_code 35 = .ok (.istore 5, 2) := by decide +kernel
theorem d_M_doTwo_37 : decode prog_10_method_23_code 37 = .ok (.aload_n 0, 1) := by decide +kernel
theorem d_M_doTwo_38 : decode prog_10_method_23_code 38 = .ok (.getfield 28, 3) := by decide +kernel
theorem d_M_doTwo_41 : decode prog_10_method_23_code 41 = .ok (.iload 4, 2) := by decide +kernel
theorem d_M_doTwo_43 : decode prog_10_method_23_code 43 = .ok (.iaload, 1) := by decide +kernel
theorem d_M_doTwo_44 : decode prog_10_method_23_code 44 = .ok (.iconst 1, 1) := by decide +kernel
theorem d_M_doTwo_45 : decode prog_10_method_23_code 45 = .ok (.if_icmp .ne (17), 3) := by decide +kernel
theorem d_M_doTwo_48 : decode prog_10_method_23_code 48 = .ok (.aload_n 0, 1) := by decide +kernel
theorem d_M_doTwo_49 : decode prog_10_method_23_code 49 = .ok (.getfield 28, 3) := by decide +kernel
theorem d_M_doTwo_52 : decode prog_10_method_23_code 52 = .ok (.iload_n 3, 1) := by decide +kernel
theorem d_M_doTwo_53 : decode prog_10_method_23_code 53 = .ok (.iaload, 1) := by decide +kernel
theorem d_M_doTwo_54 : decode prog_10_method_23_code 54 = .ok (.iconst 1, 1) := by decide +kernel
theorem d_M_doTwo_55 : decode prog_10_method_23_code 55 = .ok (.if_icmp .ne (7), 3) := by decide +kernel
theorem d_M_doTwo_58 : decode prog_10_method_23_code 58 = .ok (.iconst 1, 1) := by decide +kernel
theorem d_M_doTwo_59 : decode prog_10_method_23_code 59 = .ok (.goto (4), 3) := by decide +kernel
theorem d_M_doTwo_62 : decode prog_10_method_23_code 62 = .ok (.iconst 0, 1) := by decide +kernel
theorem d_M_doTwo_63 : decode prog_10_method_23_code 63 = .ok (.istore 6, 2) := by decide +kernel
theorem d_M_doTwo_65 : decode prog_10_method_23_code 65 = .ok (.iload_n 1, 1) := by decide +kernel
theorem d_M_doTwo_66 : decode prog_10_method_23_code 66 = .ok (.sipush (204), 3) := by decide +kernel
theorem d_M_doTwo_69 : decode prog_10_method_23_code 69 = .ok (.if_icmp .eq (10), 3) := by decide +kernel
theorem d_M_doTwo_72 : decode prog_10_method_23_code 72 = .ok (.iload_n 1, 1) := by decide +kernel
theorem d_M_doTwo_73 : decode prog_10_method_23_code 73 = .ok (.sipush (205), 3) := by decide +kernel
theorem d_M_doTwo_76 : decode prog_10_method_23_code 76 = .ok (.if_icmp .ne (7), 3) := by decide +kernel
theorem d_M_doTwo_79 : decode prog_10_method_23_code 79 = .ok (.iconst 1, 1) := by decide +kernel
theorem d_M_doTwo_80 : decode prog_10_method_23_code 80 = .ok (.goto (4), 3) := by decide +kernel
theorem d_M_doTwo_83 : decode prog_10_method_23_code 83 = .ok (.iconst 0, 1) := by decide +kernel
theorem d_M_doTwo_84 : decode prog_10_method_23_code 84 = .ok (.istore 7, 2) := by decide +kernel
theorem d_M_doTwo_86 : decode prog_10_method_23_code 86 = .ok (.iload_n 1, 1) := by decide +kernel
theorem d_M_doTwo_87 : decode prog_10_method_23_code 87 = .ok (.sipush (202), 3) := by decide +kernel
theorem d_M_doTwo_90 : decode prog_10_method_23_code 90 = .ok (.if_icmp .eq (10), 3) := by decide +kernel
theorem d_M_doTwo_93 : decode prog_10_method_23_code 93 = .ok (.iload_n 1, 1) := by decide +kernel
theorem d_M_doTwo_94 : decode prog_10_method_23_code 94 = .ok (.sipush (203), 3) := by decide +kernel
theorem d_M_doTwo_97 : decode prog_10_method_23_code 97 = .ok (.if_icmp .ne (7), 3) := by decide +kernel
theorem d_M_doTwo_100 : decode prog_10_method_23_code 100 = .ok (.iconst 1, 1) := by decide +kernel
theorem d_M_doTwo_101 : decode prog_10_method_23_code 101 = .ok (.goto (4), 3) := by decide +kernel
theorem d_M_doTwo_104 : decode prog_10_method_23_code 104 = .ok (.iconst 0, 1) := by decide +kernel
theorem d_M_doTwo_105 : decode prog_10_method_23_code 105 = .ok (.istore 8, 2) := by decide +kernel
theorem d_M_doTwo_107 : decode prog_10_method_23_code 107 = .ok (.iload 8, 2) := by decide +kernel
theorem d_M_doTwo_109 : decode prog_10_method_23_code 109 = .ok (.ifCond .eq (16), 3) := by decide +kernel
theorem d_M_doTwo_112 : decode prog_10_method_23_code 112 = .ok (.iload 5, 2) := by decide +kernel
theorem d_M_doTwo_114 : decode prog_10_method_23_code 114 = .ok (.ifCond .ne (36), 3) := by decide +kernel
theorem d_M_doTwo_117 : decode prog_10_method_23_code 117 = .ok (.iload 6, 2) := by decide +kernel
theorem d_M_doTwo_119 : decode prog_10_method_23_code 119 = .ok (.ifCond .ne (31), 3) := by decide +kernel
theorem d_M_doTwo_122 : decode prog_10_method_23_code 122 = .ok (.goto (21), 3) := by decide +kernel
theorem d_M_doTwo_125 : decode prog_10_method_23_code 125 = .ok (.iload 7, 2) := by decide +kernel
theorem d_M_doTwo_127 : decode prog_10_method_23_code 127 = .ok (.ifCond .eq (11), 3) := by decide +kernel
theorem d_M_doTwo_130 : decode prog_10_method_23_code 130 = .ok (.iload 6, 2) := by decide +kernel
theorem d_M_doTwo_132 : decode prog_10_method_23_code 132 = .ok (.ifCond .ne (18), 3) := by decide +kernel
theorem d_M_doTwo_135 : decode prog_10_method_23_code 135 = .ok (.goto (8), 3) := by decide +kernel
theorem d_M_doTwo_138 : decode prog_10_method_23_code 138 = .ok (.iload 5, 2) := by decide +kernel
theorem d_M_doTwo_140 : decode prog_10_method_23_code 140 = .ok (.ifCond .ne (10), 3) := by decide +kernel
theorem d_M_doTwo_143 : decode prog_10_method_23_code 143 = .ok (.aload_n 0, 1) := by decide +kernel
theorem d_M_doTwo_144 : decode prog_10_method_23_code 144 = .ok (.iconst 2, 1) := by decide +kernel
theorem d_M_doTwo_145 : decode prog_10_method_23_code 145 = .ok (.iload_n 2, 1) := by decide +kernel
theorem d_M_doTwo_146 : decode prog_10_method_23_code 146 = .ok (.invokevirtual 124, 3) := by decide +kernel
theorem d_M_doTwo_149 : decode prog_10_method_23_code 149 = .ok (.return_, 1) := by decide +kernel
theorem d_M_doTwo_150 : decode prog_10_method_23_code 150 = .ok (.iload_n 1, 1) := by decide +kernel
theorem d_M_doTwo_151 : decode prog_10_method_23_code 151 = .ok (.invokestatic 157, 3) := by decide +kernel
theorem d_M_doTwo_154 : decode prog_10_method_23_code 154 = .ok (.iconst 4, 1) := by decide +kernel
theorem d_M_doTwo_155 : decode prog_10_method_23_code 155 = .ok (.if_icmp .gt (13), 3) := by decide +kernel
theorem d_M_doTwo_158 : decode prog_10_method_23_code 158 = .ok (.iload_n 1, 1) := by decide +kernel
theorem d_M_doTwo_159 : decode prog_10_method_23_code 159 = .ok (.iconst 4, 1) := by decide +kernel
theorem d_M_doTwo_160 : decode prog_10_method_23_code 160 = .ok (.if_icmp .eq (8), 3) := by decide +kernel
theorem d_M_doTwo_163 : decode prog_10_method_23_code 163 = .ok (.iload_n 1, 1) := by decide +kernel
theorem d_M_doTwo_164 : decode prog_10_method_23_code 164 = .ok (.iconst 5, 1) := by decide +kernel
theorem d_M_doTwo_165 : decode prog_10_method_23_code 165 = .ok (.if_icmp .ne (7), 3) := by decide +kernel
theorem d_M_doTwo_168 : decode prog_10_method_23_code 168 = .ok (.iconst 0, 1) := by decide +kernel
theorem d_M_doTwo_169 : decode prog_10_method_23_code 169 = .ok (.goto (4), 3) := by decide +kernel
theorem d_M_doTwo_172 : decode prog_10_method_23_code 172 = .ok (.iconst 1, 1) := by decide +kernel
theorem d_M_doTwo_173 : decode prog_10_method_23_code 173 = .ok (.istore 9, 2) := by decide +kernel
theorem d_M_doTwo_175 : decode prog_10_method_23_code 175 = .ok (.aload_n 0, 1) := by decide +kernel
theorem d_M_doTwo_176 : decode prog_10_method_23_code 176 = .ok (.getfield 31, 3) := by decide +kernel
theorem d_M_doTwo_179 : decode prog_10_method_23_code 179 = .ok (.iload 4, 2) := by decide +kernel
theorem d_M_doTwo_181 : decode prog_10_method_23_code 181 = .ok (.laload, 1) := by decide +kernel
theorem d_M_doTwo_182 : decode prog_10_method_23_code 182 = .ok (.lstore 10, 2) := by decide +kernel
theorem d_M_doTwo_184 : decode prog_10_method_23_code 184 = .ok (.aload_n 0, 1) := by decide +kernel
theorem d_M_doTwo_185 : decode prog_10_method_23_code 185 = .ok (.getfield 35, 3) := by decide +kernel
theorem d_M_doTwo_188 : decode prog_10_method_23_code 188 = .ok (.iload 4, 2) := by decide +kernel
theorem d_M_doTwo_190 : decode prog_10_method_23_code 190 = .ok (.laload, 1) := by decide +kernel
theorem d_M_doTwo_191 : decode prog_10_method_23_code 191 = .ok (.lstore 12, 2) := by decide +kernel
theorem d_M_doTwo_193 : decode prog_10_method_23_code 193 = .ok (.aload_n 0, 1) := by decide +kernel
theorem d_M_doTwo_194 : decode prog_10_method_23_code 194 = .ok (.getfield 31, 3) := by decide +kernel
theorem d_M_doTwo_197 : decode prog_10_method_23_code 197 = .ok (.iload_n 3, 1) := by decide +kernel
theorem d_M_doTwo_198 : decode prog_10_method_23_code 198 = .ok (.laload, 1) := by decide +kernel
theorem d_M_doTwo_199 : decode prog_10_method_23_code 199 = .ok (.lstore 14, 2) := by decide +kernel
theorem d_M_doTwo_201 : decode prog_10_method_23_code 201 = .ok (.aload_n 0, 1) := by decide +kernel
theorem d_M_doTwo_202 : decode prog_10_method_23_code 202 = .ok (.getfield 35, 3) := by decide +kernel
theorem d_M_doTwo_205 : decode prog_10_method_23_code 205 = .ok (.iload_n 3, 1) := by decide +kernel
theorem d_M_doTwo_206 : decode prog_10_method_23_code 206 = .ok (.laload, 1) := by decide +kernel
theorem d_M_doTwo_207 : decode prog_10_method_23_code 207 = .ok (.lstore 16, 2) := by decide +kernel
theorem d_M_doTwo_209 : decode prog_10_method_23_code 209 = .ok (.aload_n 0, 1) := by decide +kernel
theorem d_M_doTwo_210 : decode prog_10_method_23_code 210 = .ok (.lconst 0, 1) := by decide +kernel
theorem d_M_doTwo_211 : decode prog_10_method_23_code 211 = .ok (.putfield 144, 3) := by decide +kernel
theorem d_M_doTwo_214 : decode prog_10_method_23_code 214 = .ok (.aload_n 0, 1) := by decide +kernel
theorem d_M_doTwo_215 : decode prog_10_method_23_code 215 = .ok (.lconst 1, 1) := by decide +kernel
theorem d_M_doTwo_216 : decode prog_10_method_23_code 216 = .ok (.putfield 150, 3) := by decide +kernel
theorem d_M_doTwo_219 : decode prog_10_method_23_code 219 = .ok (.iload_n 1, 1) := by decide +kernel
theorem d_M_doTwo_220 : decode prog_10_method_23_code 220 = .ok (.lookupswitch (319) #[(4, 149), (5, 174), (37, 199), (42, 122), (43, 68), (45, 95), (47, 199)], 68) := by decide +kernel
theorem d_M_doTwo_288 : decode prog_10_method_23_code 288 = .ok (.aload_n 0, 1) := by decide +kernel
theorem d_M_doTwo_289 : decode prog_10_method_23_code 289 = .ok (.lload 10, 2) := by decide +kernel
theorem d_M_doTwo_291 : decode prog_10_method_23_code 291 = .ok (.lload 14, 2) := by decide +kernel
theorem d_M_doTwo_293 : decode prog_10_method_23_code 293 = .ok (.ladd, 1) := by decide +kernel
theorem d_M_doTwo_294 : decode prog_10_method_23_code 294 = .ok (.lload 12, 2) := by decide +kernel
theorem d_M_doTwo_296 : decode prog_10_method_23_code 296 = .ok (.lload 16, 2) := by decide +kernel
theorem d_M_doTwo_298 : decode prog_10_method_23_code 298 = .ok (.ladd, 1) := by decide +kernel
theorem d_M_doTwo_299 : decode prog_10_method_23_code 299 = .ok (.lload 10, 2) := by decide +kernel
theorem d_M_doTwo_301 : decode prog_10_method_23_code 301 = .ok (.lload 16, 2) := by decide +kernel
theorem d_M_doTwo_303 : decode prog_10_method_23_code 303 = .ok (.ladd, 1) := by decide +kernel
theorem d_M_doTwo_304 : decode prog_10_method_23_code 304 = .ok (.lload 12, 2) := by decide +kernel
theorem d_M_doTwo_306 : decode prog_10_method_23_code 306 = .ok (.lload 14, 2) := by decide +kernel
theorem d_M_doTwo_308 : decode prog_10_method_23_code 308 = .ok (.ladd, 1) := by decide +kernel
theorem d_M_doTwo_309 : decode prog_10_method_23_code 309 = .ok (.invokevirtual 160, 3) := by decide +kernel
theorem d_M_doTwo_312 : decode prog_10_method_23_code 312 = .ok (.goto (227), 3) := by decide +kernel
theorem d_M_doTwo_315 : decode prog_10_method_23_code 315 = .ok (.aload_n 0, 1) := by decide +kernel
theorem d_M_doTwo_316 : decode prog_10_method_23_code 316 = .ok (.lload 10, 2) := by decide +kernel
theorem d_M_doTwo_318 : decode prog_10_method_23_code 318 = .ok (.lload 14, 2) := by decide +kernel
theorem d_M_doTwo_320 : decode prog_10_method_23_code 320 = .ok (.lsub, 1) := by decide +kernel
theorem d_M_doTwo_321 : decode prog_10_method_23_code 321 = .ok (.lload 12, 2) := by decide +kernel
theorem d_M_doTwo_323 : decode prog_10_method_23_code 323 = .ok (.lload 16, 2) := by decide +kernel
theorem d_M_doTwo_325 : decode prog_10_method_23_code 325 = .ok (.lsub, 1) := by decide +kernel
theorem d_M_doTwo_326 : decode prog_10_method_23_code 326 = .ok (.lload 10, 2) := by decide +kernel
theorem d_M_doTwo_328 : decode prog_10_method_23_code 328 = .ok (.lload 16, 2) := by decide +kernel
theorem d_M_doTwo_330 : decode prog_10_method_23_code 330 = .ok (.lsub, 1) := by decide +kernel
theorem d_M_doTwo_331 : decode prog_10_method_23_code 331 = .ok (.lload 12, 2) := by decide +kernel
theorem d_M_doTwo_333 : decode prog_10_method_23_code 333 = .ok (.lload 14, 2) := by decide +kernel
theorem d_M_doTwo_335 : decode prog_10_method_23_code 335 = .ok (.lsub, 1) := by decide +kernel
theorem d_M_doTwo_336 : decode prog_10_method_23_code 336 = .ok (.invokevirtual 160, 3) := by decide +kernel
theorem d_M_doTwo_339 : decode prog_10_method_23_code 339 = .ok (.goto (200), 3) := by decide +kernel
theorem d_M_doTwo_342 : decode prog_10_method_23_code 342 = .ok (.aload_n 0, 1) := by decide +kernel
theorem d_M_doTwo_343 : decode prog_10_method_23_code 343 = .ok (.lload 10, 2) := by decide +kernel
theorem d_M_doTwo_345 : decode prog_10_method_23_code 345 = .ok (.lload 14, 2) := by decide +kernel
theorem d_M_doTwo_347 : decode prog_10_method_23_code 347 = .ok (.lmul, 1) := by decide +kernel
theorem d_M_doTwo_348 : decode prog_10_method_23_code 348 = .ok (.lload 10, 2) := by decide +kernel
theorem d_M_doTwo_350 : decode prog_10_method_23_code 350 = .ok (.lload 16, 2) := by decide +kernel
theorem d_M_doTwo_352 : decode prog_10_method_23_code 352 = .ok (.lmul, 1) := by decide +kernel
theorem d_M_doTwo_353 : decode prog_10_method_23_code 353 = .ok (.lload 12, 2) := by decide +kernel
theorem d_M_doTwo_355 : decode prog_10_method_23_code 355 = .ok (.lload 14, 2) := by decide +kernel
theorem d_M_doTwo_357 : decode prog_10_method_23_code 357 = .ok (.lmul, 1) := by decide +kernel
theorem d_M_doTwo_358 : decode prog_10_method_23_code 358 = .ok (.lload 12, 2) := by decide +kernel
theorem d_M_doTwo_360 : decode prog_10_method_23_code 360 = .ok (.lload 16, 2) := by decide +kernel
theorem d_M_doTwo_362 : decode prog_10_method_23_code 362 = .ok (.lmul, 1) := by decide +kernel
theorem d_M_doTwo_363 : decode prog_10_method_23_code 363 = .ok (.invokevirtual 160, 3) := by decide +kernel
theorem d_M_doTwo_366 : decode prog_10_method_23_code 366 = .ok (.goto (173), 3) := by decide +kernel
theorem d_M_doTwo_369 : decode prog_10_method_23_code 369 = .ok (.aload_n 0, 1) := by decide +kernel
theorem d_M_doTwo_370 : decode prog_10_method_23_code 370 = .ok (.lload 10, 2) := by decide +kernel
theorem d_M_doTwo_372 : decode prog_10_method_23_code 372 = .ok (.lload 14, 2) := by decide +kernel
theorem d_M_doTwo_374 : decode prog_10_method_23_code 374 = .ok (.invokestatic 140, 3) := by decide +kernel
theorem d_M_doTwo_377 : decode prog_10_method_23_code 377 = .ok (.putfield 144, 3) := by decide +kernel
theorem d_M_doTwo_380 : decode prog_10_method_23_code 380 = .ok (.aload_n 0, 1) := by decide +kernel
theorem d_M_doTwo_381 : decode prog_10_method_23_code 381 = .ok (.lload 12, 2) := by decide +kernel
theorem d_M_doTwo_383 : decode prog_10_method_23_code 383 = .ok (.lload 16, 2) := by decide +kernel
theorem d_M_doTwo_385 : decode prog_10_method_23_code 385 = .ok (.invokestatic 140, 3) := by decide +kernel
theorem d_M_doTwo_388 : decode prog_10_method_23_code 388 = .ok (.putfield 150, 3) := by decide +kernel
theorem d_M_doTwo_391 : decode prog_10_method_23_code 391 = .ok (.goto (148), 3) := by decide +kernel
theorem d_M_doTwo_394 : decode prog_10_method_23_code 394 = .ok (.aload_n 0, 1) := by decide +kernel
theorem d_M_doTwo_395 : decode prog_10_method_23_code 395 = .ok (.lload 10, 2) := by decide +kernel
theorem d_M_doTwo_397 : decode prog_10_method_23_code 397 = .ok (.lload 14, 2) := by decide +kernel
theorem d_M_doTwo_399 : decode prog_10_method_23_code 399 = .ok (.invokestatic 147, 3) := by decide +kernel
theorem d_M_doTwo_402 : decode prog_10_method_23_code 402 = .ok (.putfield 144, 3) := by decide +kernel
theorem d_M_doTwo_405 : decode prog_10_method_23_code 405 = .ok (.aload_n 0, 1) := by decide +kernel
theorem d_M_doTwo_406 : decode prog_10_method_23_code 406 = .ok (.lload 12, 2) := by decide +kernel
theorem d_M_doTwo_408 : decode prog_10_method_23_code 408 = .ok (.lload 16, 2) := by decide +kernel
theorem d_M_doTwo_410 : decode prog_10_method_23_code 410 = .ok (.invokestatic 147, 3) := by decide +kernel
theorem d_M_doTwo_413 : decode prog_10_method_23_code 413 = .ok (.putfield 150, 3) := by decide +kernel
theorem d_M_doTwo_416 : decode prog_10_method_23_code 416 = .ok (.goto (123), 3) := by decide +kernel
theorem d_M_doTwo_419 : decode prog_10_method_23_code 419 = .ok (.lload 14, 2) := by decide +kernel
theorem d_M_doTwo_421 : decode prog_10_method_23_code 421 = .ok (.lconst 0, 1) := by decide +kernel
theorem d_M_doTwo_422 : decode prog_10_method_23_code 422 = .ok (.lcmp, 1) := by decide +kernel
theorem d_M_doTwo_423 : decode prog_10_method_23_code 423 = .ok (.ifCond .gt (17), 3) := by decide +kernel
theorem d_M_doTwo_426 : decode prog_10_method_23_code 426 = .ok (.lload 16, 2) := by decide +kernel
theorem d_M_doTwo_428 : decode prog_10_method_23_code 428 = .ok (.lconst 0, 1) := by decide +kernel
theorem d_M_doTwo_429 : decode prog_10_method_23_code 429 = .ok (.lcmp, 1) := by decide +kernel
theorem d_M_doTwo_430 : decode prog_10_method_23_code 430 = .ok (.ifCond .lt (10), 3) := by decide +kernel
theorem d_M_doTwo_433 : decode prog_10_method_23_code 433 = .ok (.aload_n 0, 1) := by decide +kernel
theorem d_M_doTwo_434 : decode prog_10_method_23_code 434 = .ok (.iconst 3, 1) := by decide +kernel
theorem d_M_doTwo_435 : decode prog_10_method_23_code 435 = .ok (.iload_n 2, 1) := by decide +kernel
theorem d_M_doTwo_436 : decode prog_10_method_23_code 436 = .ok (.invokevirtual 124, 3) := by decide +kernel
theorem d_M_doTwo_439 : decode prog_10_method_23_code 439 = .ok (.return_, 1) := by decide +kernel
theorem d_M_doTwo_440 : decode prog_10_method_23_code 440 = .ok (.lload 14, 2) := by decide +kernel
theorem d_M_doTwo_442 : decode prog_10_method_23_code 442 = .ok (.invokestatic 164, 3) := by decide +kernel
theorem d_M_doTwo_445 : decode prog_10_method_23_code 445 = .ok (.lload 16, 2) := by decide +kernel
theorem d_M_doTwo_447 : decode prog_10_method_23_code 447 = .ok (.invokestatic 164, 3) := by decide +kernel
theorem d_M_doTwo_450 : decode prog_10_method_23_code 450 = .ok (.invokestatic 147, 3) := by decide +kernel
theorem d_M_doTwo_453 : decode prog_10_method_23_code 453 = .ok (.lconst 1, 1) := by decide +kernel
theorem d_M_doTwo_454 : decode prog_10_method_23_code 454 = .ok (.lsub, 1) := by decide +kernel
theorem d_M_doTwo_455 : decode prog_10_method_23_code 455 = .ok (.lstore 18, 2) := by decide +kernel
theorem d_M_doTwo_457 : decode prog_10_method_23_code 457 = .ok (.iload_n 1, 1) := by decide +kernel
theorem d_M_doTwo_458 : decode prog_10_method_23_code 458 = .ok (.bipush (47), 2) := by decide +kernel
theorem d_M_doTwo_460 : decode prog_10_method_23_code 460 = .ok (.if_icmp .ne (30), 3) := by decide +kernel
theorem d_M_doTwo_463 : decode prog_10_method_23_code 463 = .ok (.aload_n 0, 1) := by decide +kernel
theorem d_M_doTwo_464 : decode prog_10_method_23_code 464 = .ok (.lload 10, 2) := by decide +kernel
theorem d_M_doTwo_466 : decode prog_10_method_23_code 466 = .ok (.lload 14, 2) := by decide +kernel
theorem d_M_doTwo_468 : decode prog_10_method_23_code 468 = .ok (.ldiv, 1) := by decide +kernel
theorem d_M_doTwo_469 : decode prog_10_method_23_code 469 = .ok (.lload 10, 2) := by decide +kernel
theorem d_M_doTwo_471 : decode prog_10_method_23_code 471 = .ok (.lload 16, 2) := by decide +kernel
theorem d_M_doTwo_473 : decode prog_10_method_23_code 473 = .ok (.ldiv, 1) := by decide +kernel
theorem d_M_doTwo_474 : decode prog_10_method_23_code 474 = .ok (.lload 12, 2) := by decide +kernel
theorem d_M_doTwo_476 : decode prog_10_method_23_code 476 = .ok (.lload 14, 2) := by decide +kernel
theorem d_M_doTwo_478 : decode prog_10_method_23_code 478 = .ok (.ldiv, 1) := by decide +kernel
theorem d_M_doTwo_479 : decode prog_10_method_23_code 479 = .ok (.lload 12, 2) := by decide +kernel
theorem d_M_doTwo_481 : decode prog_10_method_23_code 481 = .ok (.lload 16, 2) := by decide +kernel
theorem d_M_doTwo_483 : decode prog_10_method_23_code 483 = .ok (.ldiv, 1) := by decide +kernel
theorem d_M_doTwo_484 : decode prog_10_method_23_code 484 = .ok (.invokevirtual 160, 3) := by decide +kernel
theorem d_M_doTwo_487 : decode prog_10_method_23_code 487 = .ok (.goto (52), 3) := by decide +kernel
theorem d_M_doTwo_490 : decode prog_10_method_23_code 490 = .ok (.aload_n 0, 1) := by decide +kernel
theorem d_M_doTwo_491 : decode prog_10_method_23_code 491 = .ok (.lload 10, 2) := by decide +kernel
theorem d_M_doTwo_493 : decode prog_10_method_23_code 493 = .ok (.lconst 0, 1) := by decide +kernel
theorem d_M_doTwo_494 : decode prog_10_method_23_code 494 = .ok (.lcmp, 1) := by decide +kernel
theorem d_M_doTwo_495 : decode prog_10_method_23_code 495 = .ok (.ifCond .ge (15), 3) := by decide +kernel
theorem d_M_doTwo_498 : decode prog_10_method_23_code 498 = .ok (.lload 18, 2) := by decide +kernel
theorem d_M_doTwo_500 : decode prog_10_method_23_code 500 = .ok (.lload 10, 2) := by decide +kernel
theorem d_M_doTwo_502 : decode prog_10_method_23_code 502 = .ok (.lneg, 1) := by decide +kernel
theorem d_M_doTwo_503 : decode prog_10_method_23_code 503 = .ok (.invokestatic 140, 3) := by decide +kernel
theorem d_M_doTwo_506 : decode prog_10_method_23_code 506 = .ok (.lneg, 1) := by decide +kernel
theorem d_M_doTwo_507 : decode prog_10_method_23_code 507 = .ok (.goto (4), 3) := by decide +kernel
theorem d_M_doTwo_510 : decode prog_10_method_23_code 510 = .ok (.lconst 0, 1) := by decide +kernel
theorem d_M_doTwo_511 : decode prog_10_method_23_code 511 = .ok (.putfield 144, 3) := by decide +kernel
theorem d_M_doTwo_514 : decode prog_10_method_23_code 514 = .ok (.aload_n 0, 1) := by decide +kernel
theorem d_M_doTwo_515 : decode prog_10_method_23_code 515 = .ok (.lload 12, 2) := by decide +kernel
theorem d_M_doTwo_517 : decode prog_10_method_23_code 517 = .ok (.lconst 0, 1) := by decide +kernel
theorem d_M_doTwo_518 : decode prog_10_method_23_code 518 = .ok (.lcmp, 1) := by decide +kernel
theorem d_M_doTwo_519 : decode prog_10_method_23_code 519 = .ok (.ifCond .le (13), 3) := by decide +kernel
theorem d_M_doTwo_522 : decode prog_10_method_23_code 522 = .ok (.lload 18, 2) := by decide +kernel
theorem d_M_doTwo_524 : decode prog_10_method_23_code 524 = .ok (.lload 12, 2) := by decide +kernel
theorem d_M_doTwo_526 : decode prog_10_method_23_code 526 = .ok (.invokestatic 140, 3) := by decide +kernel
theorem d_M_doTwo_529 : decode prog_10_method_23_code 529 = .ok (.goto (4), 3) := by decide +kernel
theorem d_M_doTwo_532 : decode prog_10_method_23_code 532 = .ok (.lconst 0, 1) := by decide +kernel
theorem d_M_doTwo_533 : decode prog_10_method_23_code 533 = .ok (.putfield 150, 3) := by decide +kernel
theorem d_M_doTwo_536 : decode prog_10_method_23_code 536 = .ok (.goto (3), 3) := by decide +kernel
theorem d_M_doTwo_539 : decode prog_10_method_23_code 539 = .ok (.aload_n 0, 1) := by decide +kernel
theorem d_M_doTwo_540 : decode prog_10_method_23_code 540 = .ok (.getfield 144, 3) := by decide +kernel
theorem d_M_doTwo_543 : decode prog_10_method_23_code 543 = .ok (.ldc2_w 75, 3) := by decide +kernel
theorem d_M_doTwo_546 : decode prog_10_method_23_code 546 = .ok (.lcmp, 1) := by decide +kernel
theorem d_M_doTwo_547 : decode prog_10_method_23_code 547 = .ok (.ifCond .lt (14), 3) := by decide +kernel
theorem d_M_doTwo_550 : decode prog_10_method_23_code 550 = .ok (.aload_n 0, 1) := by decide +kernel
theorem d_M_doTwo_551 : decode prog_10_method_23_code 551 = .ok (.getfield 150, 3) := by decide +kernel
theorem d_M_doTwo_554 : decode prog_10_method_23_code 554 = .ok (.ldc2_w 77, 3) := by decide +kernel
theorem d_M_doTwo_557 : decode prog_10_method_23_code 557 = .ok (.lcmp, 1) := by decide +kernel
theorem d_M_doTwo_558 : decode prog_10_method_23_code 558 = .ok (.ifCond .le (9), 3) := by decide +kernel
theorem d_M_doTwo_561 : decode prog_10_method_23_code 561 = .ok (.aload_n 0, 1) := by decide +kernel
theorem d_M_doTwo_562 : decode prog_10_method_23_code 562 = .ok (.iconst 4, 1) := by decide +kernel
theorem d_M_doTwo_563 : decode prog_10_method_23_code 563 = .ok (.iload_n 2, 1) := by decide +kernel
theorem d_M_doTwo_564 : decode prog_10_method_23_code 564 = .ok (.invokevirtual 124, 3) := by decide +kernel
theorem d_M_doTwo_567 : decode prog_10_method_23_code 567 = .ok (.aload_n 0, 1) := by decide +kernel
theorem d_M_doTwo_568 : decode prog_10_method_23_code 568 = .ok (.iload_n 1, 1) := by decide +kernel
theorem d_M_doTwo_569 : decode prog_10_method_23_code 569 = .ok (.iload_n 2, 1) := by decide +kernel
theorem d_M_doTwo_570 : decode prog_10_method_23_code 570 = .ok (.iload 9, 2) := by decide +kernel
theorem d_M_doTwo_572 : decode prog_10_method_23_code 572 = .ok (.aload_n 0, 1) := by decide +kernel
theorem d_M_doTwo_573 : decode prog_10_method_23_code 573 = .ok (.getfield 144, 3) := by decide +kernel
theorem d_M_doTwo_576 : decode prog_10_method_23_code 576 = .ok (.aload_n 0, 1) := by decide +kernel
theorem d_M_doTwo_577 : decode prog_10_method_23_code 577 = .ok (.getfield 150, 3) := by decide +kernel
theorem d_M_doTwo_580 : decode prog_10_method_23_code 580 = .ok (.invokevirtual 167, 3) := by decide +kernel
theorem d_M_doTwo_583 : decode prog_10_method_23_code 583 = .ok (.istore 18, 2) := by decide +kernel
theorem d_M_doTwo_585 : decode prog_10_method_23_code 585 = .ok (.aload_n 0, 1) := by decide +kernel
theorem d_M_doTwo_586 : decode prog_10_method_23_code 586 = .ok (.getfield 38, 3) := by decide +kernel
theorem d_M_doTwo_589 : decode prog_10_method_23_code 589 = .ok (.iload 18, 2) := by decide +kernel
theorem d_M_doTwo_591 : decode prog_10_method_23_code 591 = .ok (.iload 4, 2) := by decide +kernel
theorem d_M_doTwo_593 : decode prog_10_method_23_code 593 = .ok (.iastore, 1) := by decide +kernel
theorem d_M_doTwo_594 : decode prog_10_method_23_code 594 = .ok (.aload_n 0, 1) := by decide +kernel
theorem d_M_doTwo_595 : decode prog_10_method_23_code 595 = .ok (.getfield 41, 3) := by decide +kernel
theorem d_M_doTwo_598 : decode prog_10_method_23_code 598 = .ok (.iload 18, 2) := by decide +kernel
theorem d_M_doTwo_600 : decode prog_10_method_23_code 600 = .ok (.iload_n 3, 1) := by decide +kernel
theorem d_M_doTwo_601 : decode prog_10_method_23_code 601 = .ok (.iastore, 1) := by decide +kernel
theorem d_M_doTwo_602 : decode prog_10_method_23_code 602 = .ok (.aload_n 0, 1) := by decide +kernel
theorem d_M_doTwo_603 : decode prog_10_method_23_code 603 = .ok (.getfield 47, 3) := by decide +kernel
theorem d_M_doTwo_606 : decode prog_10_method_23_code 606 = .ok (.iload 18, 2) := by decide +kernel
theorem d_M_doTwo_608 : decode prog_10_method_23_code 608 = .ok (.iconst 1, 1) := by decide +kernel
theorem d_M_doTwo_609 : decode prog_10_method_23_code 609 = .ok (.aload_n 0, 1) := by decide +kernel
theorem d_M_doTwo_610 : decode prog_10_method_23_code 610 = .ok (.getfield 47, 3) := by decide +kernel
theorem d_M_doTwo_613 : decode prog_10_method_23_code 613 = .ok (.iload 4, 2) := by decide +kernel
theorem d_M_doTwo_615 : decode prog_10_method_23_code 615 = .ok (.iaload, 1) := by decide +kernel
theorem d_M_doTwo_616 : decode prog_10_method_23_code 616 = .ok (.i2l, 1) := by decide +kernel
theorem d_M_doTwo_617 : decode prog_10_method_23_code 617 = .ok (.aload_n 0, 1) := by decide +kernel
theorem d_M_doTwo_618 : decode prog_10_method_23_code 618 = .ok (.getfield 47, 3) := by decide +kernel
theorem d_M_doTwo_621 : decode prog_10_method_23_code 621 = .ok (.iload_n 3, 1) := by decide +kernel
theorem d_M_doTwo_622 : decode prog_10_method_23_code 622 = .ok (.iaload, 1) := by decide +kernel
theorem d_M_doTwo_623 : decode prog_10_method_23_code 623 = .ok (.i2l, 1) := by decide +kernel
theorem d_M_doTwo_624 : decode prog_10_method_23_code 624 = .ok (.invokestatic 147, 3) := by decide +kernel
theorem d_M_doTwo_627 : decode prog_10_method_23_code 627 = .ok (.l2i, 1) := by decide +kernel
theorem d_M_doTwo_628 : decode prog_10_method_23_code 628 = .ok (.iadd, 1) := by decide +kernel
theorem d_M_doTwo_629 : decode prog_10_method_23_code 629 = .ok (.iastore, 1) := by decide +kernel
theorem d_M_doTwo_630 : decode prog_10_method_23_code 630 = .ok (.aload_n 0, 1) := by decide +kernel
theorem d_M_doTwo_631 : decode prog_10_method_23_code 631 = .ok (.iload 18, 2) := by decide +kernel
theorem d_M_doTwo_633 : decode prog_10_method_23_code 633 = .ok (.invokevirtual 171, 3) := by decide +kernel
theorem d_M_doTwo_636 : decode prog_10_method_23_code 636 = .ok (.return_, 1) := by decide +kernel
def b_M_doTwo_143 (post : zH → Prop) (l2 : Int32) (h : zH) : Prop := wp_M_bad (2) (l2) h (fun (h2 : zH) => post h2)
def b_M_doTwo_567 (post : zH → Prop) (l1 : Int32) (l2 : Int32) (l3 : Int32) (l4 : Int32) (l9 : Int32) (h : zH) : Prop := wp_M_part5 (l1) (l2) (l9) ((h.2.1 39 32)) ((h.2.1 39 33)) h (fun (r3 : Int32) (h4 : zH) => (vp_in r3 200 ∧ ∀ h5 : zH, h5 = zi h4 49 (r3 : Int32).toNatClampNeg l4 → (vp_in r3 200 ∧ ∀ h6 : zH, h6 = zi h5 50 (r3 : Int32).toNatClampNeg l3 → (vp_in l4 200 ∧ (vp_in l3 200 ∧ wp_M_greater (((h6.1 52 (l4 : Int32).toNatClampNeg) : Int32).toInt64) (((h6.1 52 (l3 : Int32).toNatClampNeg) : Int32).toInt64) h6 (fun (r7 : Int64) (h8 : zH) => (vp_in r3 200 ∧ ∀ h9 : zH, h9 = zi h8 52 (r3 : Int32).toNatClampNeg (1 + (r7 : Int64).toInt32) → wp_M_push (r3) h9 (fun (h11 : zH) => post h11))))))))
def b_M_doTwo_561 (post : zH → Prop) (l1 : Int32) (l2 : Int32) (l3 : Int32) (l4 : Int32) (l9 : Int32) (h : zH) : Prop := wp_M_bad (4) (l2) h (fun (h13 : zH) => b_M_doTwo_567 post (l1) (l2) (l3) (l4) (l9) h13)
def b_M_doTwo_539 (post : zH → Prop) (l1 : Int32) (l2 : Int32) (l3 : Int32) (l4 : Int32) (l9 : Int32) (h : zH) : Prop := (((lg_cmp (h.2.1 39 32) (-2000000000)) < 0 → b_M_doTwo_561 post (l1) (l2) (l3) (l4) (l9) h) ∧ (¬ (lg_cmp (h.2.1 39 32) (-2000000000)) < 0 → (((lg_cmp (h.2.1 39 33) 2000000000) ≤ 0 → b_M_doTwo_567 post (l1) (l2) (l3) (l4) (l9) h) ∧ (¬ (lg_cmp (h.2.1 39 33) 2000000000) ≤ 0 → b_M_doTwo_561 post (l1) (l2) (l3) (l4) (l9) h))))
def b_M_doTwo_533 (post : zH → Prop) (l1 : Int32) (l2 : Int32) (l3 : Int32) (l4 : Int32) (l9 : Int32) (s0 : Int64) (h : zH) : Prop := (∀ h14 : zH, h14 = zl h 39 33 s0 → b_M_doTwo_539 post (l1) (l2) (l3) (l4) (l9) h14)
def b_M_doTwo_511 (post : zH → Prop) (l1 : Int32) (l2 : Int32) (l3 : Int32) (l4 : Int32) (l9 : Int32) (l12 : Int64) (l18 : Int64) (s0 : Int64) (h : zH) : Prop := (∀ h15 : zH, h15 = zl h 39 32 s0 → (((lg_cmp l12 0) ≤ 0 → b_M_doTwo_533 post (l1) (l2) (l3) (l4) (l9) (0) h15) ∧ (¬ (lg_cmp l12 0) ≤ 0 → wp_M_lesser (l18) (l12) h15 (fun (r16 : Int64) (h17 : zH) => b_M_doTwo_533 post (l1) (l2) (l3) (l4) (l9) (r16) h17))))
def b_M_doTwo_440 (post : zH → Prop) (l1 : Int32) (l2 : Int32) (l3 : Int32) (l4 : Int32) (l9 : Int32) (l10 : Int64) (l12 : Int64) (l14 : Int64) (l16 : Int64) (h : zH) : Prop := wp_M_size (l14) h (fun (r18 : Int64) (h19 : zH) => wp_M_size (l16) h19 (fun (r20 : Int64) (h21 : zH) => wp_M_greater (r18) (r20) h21 (fun (r22 : Int64) (h23 : zH) => ((¬ l1 = 47 → ((0 ≤ (lg_cmp l10 0) → b_M_doTwo_511 post (l1) (l2) (l3) (l4) (l9) (l12) ((r22 - 1)) (0) h23) ∧ (¬ 0 ≤ (lg_cmp l10 0) → wp_M_lesser ((r22 - 1)) ((-l10)) h23 (fun (r24 : Int64) (h25 : zH) => b_M_doTwo_511 post (l1) (l2) (l3) (l4) (l9) (l12) ((r22 - 1)) ((-r24)) h25)))) ∧ (l1 = 47 → (¬ l14 = 0 ∧ (¬ l16 = 0 ∧ (¬ l14 = 0 ∧ (¬ l16 = 0 ∧ wp_M_ends ((l10 / l14)) ((l10 / l16)) ((l12 / l14)) ((l12 / l16)) h23 (fun (h27 : zH) => b_M_doTwo_539 post (l1) (l2) (l3) (l4) (l9) h27))))))))))
def b_M_doTwo_419 (post : zH → Prop) (l1 : Int32) (l2 : Int32) (l3 : Int32) (l4 : Int32) (l9 : Int32) (l10 : Int64) (l12 : Int64) (l14 : Int64) (l16 : Int64) (h : zH) : Prop := ((0 < (lg_cmp l14 0) → b_M_doTwo_440 post (l1) (l2) (l3) (l4) (l9) (l10) (l12) (l14) (l16) h) ∧ (¬ 0 < (lg_cmp l14 0) → (((lg_cmp l16 0) < 0 → b_M_doTwo_440 post (l1) (l2) (l3) (l4) (l9) (l10) (l12) (l14) (l16) h) ∧ (¬ (lg_cmp l16 0) < 0 → wp_M_bad (3) (l2) h (fun (h29 : zH) => post h29)))))
def b_M_doTwo_173 (post : zH → Prop) (l1 : Int32) (l2 : Int32) (l3 : Int32) (l4 : Int32) (s0 : Int32) (h : zH) : Prop := (vp_in l4 200 ∧ (vp_in l4 200 ∧ (vp_in l3 200 ∧ (vp_in l3 200 ∧ (∀ h30 : zH, h30 = zl h 39 32 0 → (∀ h31 : zH, h31 = zl h30 39 33 1 → ((l1 = 4 → wp_M_lesser ((h.2.1 47 (l4 : Int32).toNatClampNeg)) ((h.2.1 47 (l3 : Int32).toNatClampNeg)) h31 (fun (r32 : Int64) (h33 : zH) => (∀ h34 : zH, h34 = zl h33 39 32 r32 → wp_M_lesser ((h.2.1 48 (l4 : Int32).toNatClampNeg)) ((h.2.1 48 (l3 : Int32).toNatClampNeg)) h34 (fun (r35 : Int64) (h36 : zH) => (∀ h37 : zH, h37 = zl h36 39 33 r35 → b_M_doTwo_539 post (l1) (l2) (l3) (l4) (s0) h37))))) ∧ (¬ l1 = 4 → ((l1 = 5 → wp_M_greater ((h.2.1 47 (l4 : Int32).toNatClampNeg)) ((h.2.1 47 (l3 : Int32).toNatClampNeg)) h31 (fun (r38 : Int64) (h39 : zH) => (∀ h40 : zH, h40 = zl h39 39 32 r38 → wp_M_greater ((h.2.1 48 (l4 : Int32).toNatClampNeg)) ((h.2.1 48 (l3 : Int32).toNatClampNeg)) h40 (fun (r41 : Int64) (h42 : zH) => (∀ h43 : zH, h43 = zl h42 39 33 r41 → b_M_doTwo_539 post (l1) (l2) (l3) (l4) (s0) h43))))) ∧ (¬ l1 = 5 → ((l1 = 37 → b_M_doTwo_419 post (l1) (l2) (l3) (l4) (s0) ((h.2.1 47 (l4 : Int32).toNatClampNeg)) ((h.2.1 48 (l4 : Int32).toNatClampNeg)) ((h.2.1 47 (l3 : Int32).toNatClampNeg)) ((h.2.1 48 (l3 : Int32).toNatClampNeg)) h31) ∧ (¬ l1 = 37 → ((l1 = 42 → wp_M_ends (((h.2.1 47 (l4 : Int32).toNatClampNeg) * (h.2.1 47 (l3 : Int32).toNatClampNeg))) (((h.2.1 47 (l4 : Int32).toNatClampNeg) * (h.2.1 48 (l3 : Int32).toNatClampNeg))) (((h.2.1 48 (l4 : Int32).toNatClampNeg) * (h.2.1 47 (l3 : Int32).toNatClampNeg))) (((h.2.1 48 (l4 : Int32).toNatClampNeg) * (h.2.1 48 (l3 : Int32).toNatClampNeg))) h31 (fun (h45 : zH) => b_M_doTwo_539 post (l1) (l2) (l3) (l4) (s0) h45)) ∧ (¬ l1 = 42 → ((l1 = 43 → wp_M_ends (((h.2.1 47 (l4 : Int32).toNatClampNeg) + (h.2.1 47 (l3 : Int32).toNatClampNeg))) (((h.2.1 48 (l4 : Int32).toNatClampNeg) + (h.2.1 48 (l3 : Int32).toNatClampNeg))) (((h.2.1 47 (l4 : Int32).toNatClampNeg) + (h.2.1 48 (l3 : Int32).toNatClampNeg))) (((h.2.1 48 (l4 : Int32).toNatClampNeg) + (h.2.1 47 (l3 : Int32).toNatClampNeg))) h31 (fun (h47 : zH) => b_M_doTwo_539 post (l1) (l2) (l3) (l4) (s0) h47)) ∧ (¬ l1 = 43 → ((l1 = 45 → wp_M_ends (((h.2.1 47 (l4 : Int32).toNatClampNeg) - (h.2.1 47 (l3 : Int32).toNatClampNeg))) (((h.2.1 48 (l4 : Int32).toNatClampNeg) - (h.2.1 48 (l3 : Int32).toNatClampNeg))) (((h.2.1 47 (l4 : Int32).toNatClampNeg) - (h.2.1 48 (l3 : Int32).toNatClampNeg))) (((h.2.1 48 (l4 : Int32).toNatClampNeg) - (h.2.1 47 (l3 : Int32).toNatClampNeg))) h31 (fun (h49 : zH) => b_M_doTwo_539 post (l1) (l2) (l3) (l4) (s0) h49)) ∧ (¬ l1 = 45 → ((l1 = 47 → b_M_doTwo_419 post (l1) (l2) (l3) (l4) (s0) ((h.2.1 47 (l4 : Int32).toNatClampNeg)) ((h.2.1 48 (l4 : Int32).toNatClampNeg)) ((h.2.1 47 (l3 : Int32).toNatClampNeg)) ((h.2.1 48 (l3 : Int32).toNatClampNeg)) h31) ∧ (¬ l1 = 47 → b_M_doTwo_539 post (l1) (l2) (l3) (l4) (s0) h31))))))))))))))))))))
def b_M_doTwo_168 (post : zH → Prop) (l1 : Int32) (l2 : Int32) (l3 : Int32) (l4 : Int32) (h : zH) : Prop := b_M_doTwo_173 post (l1) (l2) (l3) (l4) (0) h
def b_M_doTwo_150 (post : zH → Prop) (l1 : Int32) (l2 : Int32) (l3 : Int32) (l4 : Int32) (h : zH) : Prop := wp_M_rank (l1) h (fun (r50 : Int32) (h51 : zH) => ((4 < r50 → b_M_doTwo_168 post (l1) (l2) (l3) (l4) h51) ∧ (¬ 4 < r50 → ((l1 = 4 → b_M_doTwo_168 post (l1) (l2) (l3) (l4) h51) ∧ (¬ l1 = 4 → ((¬ l1 = 5 → b_M_doTwo_173 post (l1) (l2) (l3) (l4) (1) h51) ∧ (l1 = 5 → b_M_doTwo_168 post (l1) (l2) (l3) (l4) h51)))))))
def b_M_doTwo_105 (post : zH → Prop) (l1 : Int32) (l2 : Int32) (l3 : Int32) (l4 : Int32) (l5 : Int32) (l6 : Int32) (l7 : Int32) (s0 : Int32) (h : zH) : Prop := ((s0 = 0 → ((l7 = 0 → ((¬ l5 = 0 → b_M_doTwo_150 post (l1) (l2) (l3) (l4) h) ∧ (l5 = 0 → b_M_doTwo_143 post (l2) h))) ∧ (¬ l7 = 0 → ((¬ l6 = 0 → b_M_doTwo_150 post (l1) (l2) (l3) (l4) h) ∧ (l6 = 0 → b_M_doTwo_143 post (l2) h))))) ∧ (¬ s0 = 0 → ((¬ l5 = 0 → b_M_doTwo_150 post (l1) (l2) (l3) (l4) h) ∧ (l5 = 0 → ((¬ l6 = 0 → b_M_doTwo_150 post (l1) (l2) (l3) (l4) h) ∧ (l6 = 0 → b_M_doTwo_143 post (l2) h))))))
def b_M_doTwo_100 (post : zH → Prop) (l1 : Int32) (l2 : Int32) (l3 : Int32) (l4 : Int32) (l5 : Int32) (l6 : Int32) (l7 : Int32) (h : zH) : Prop := b_M_doTwo_105 post (l1) (l2) (l3) (l4) (l5) (l6) (l7) (1) h
def b_M_doTwo_84 (post : zH → Prop) (l1 : Int32) (l2 : Int32) (l3 : Int32) (l4 : Int32) (l5 : Int32) (l6 : Int32) (s0 : Int32) (h : zH) : Prop := ((l1 = 202 → b_M_doTwo_100 post (l1) (l2) (l3) (l4) (l5) (l6) (s0) h) ∧ (¬ l1 = 202 → ((¬ l1 = 203 → b_M_doTwo_105 post (l1) (l2) (l3) (l4) (l5) (l6) (s0) (0) h) ∧ (l1 = 203 → b_M_doTwo_100 post (l1) (l2) (l3) (l4) (l5) (l6) (s0) h))))
def b_M_doTwo_79 (post : zH → Prop) (l1 : Int32) (l2 : Int32) (l3 : Int32) (l4 : Int32) (l5 : Int32) (l6 : Int32) (h : zH) : Prop := b_M_doTwo_84 post (l1) (l2) (l3) (l4) (l5) (l6) (1) h
def b_M_doTwo_63 (post : zH → Prop) (l1 : Int32) (l2 : Int32) (l3 : Int32) (l4 : Int32) (l5 : Int32) (s0 : Int32) (h : zH) : Prop := ((l1 = 204 → b_M_doTwo_79 post (l1) (l2) (l3) (l4) (l5) (s0) h) ∧ (¬ l1 = 204 → ((¬ l1 = 205 → b_M_doTwo_84 post (l1) (l2) (l3) (l4) (l5) (s0) (0) h) ∧ (l1 = 205 → b_M_doTwo_79 post (l1) (l2) (l3) (l4) (l5) (s0) h))))
def b_M_doTwo_62 (post : zH → Prop) (l1 : Int32) (l2 : Int32) (l3 : Int32) (l4 : Int32) (l5 : Int32) (h : zH) : Prop := b_M_doTwo_63 post (l1) (l2) (l3) (l4) (l5) (0) h
def b_M_doTwo_35 (post : zH → Prop) (l1 : Int32) (l2 : Int32) (l3 : Int32) (l4 : Int32) (s0 : Int32) (h : zH) : Prop := (vp_in l4 200 ∧ ((¬ (h.1 46 (l4 : Int32).toNatClampNeg) = 1 → b_M_doTwo_62 post (l1) (l2) (l3) (l4) (s0) h) ∧ ((h.1 46 (l4 : Int32).toNatClampNeg) = 1 → (vp_in l3 200 ∧ ((¬ (h.1 46 (l3 : Int32).toNatClampNeg) = 1 → b_M_doTwo_62 post (l1) (l2) (l3) (l4) (s0) h) ∧ ((h.1 46 (l3 : Int32).toNatClampNeg) = 1 → b_M_doTwo_63 post (l1) (l2) (l3) (l4) (s0) (1) h))))))
def b_M_doTwo_34 (post : zH → Prop) (l1 : Int32) (l2 : Int32) (l3 : Int32) (l4 : Int32) (h : zH) : Prop := b_M_doTwo_35 post (l1) (l2) (l3) (l4) (0) h
def wp_M_doTwo (l1 : Int32) (l2 : Int32) (h : zH) (post : zH → Prop) : Prop := wp_M_pop  h (fun (r52 : Int32) (h53 : zH) => wp_M_pop  h53 (fun (r54 : Int32) (h55 : zH) => (vp_in r54 200 ∧ ((¬ (h55.1 46 (r54 : Int32).toNatClampNeg) = 0 → b_M_doTwo_34 post (l1) (l2) (r52) (r54) h55) ∧ ((h55.1 46 (r54 : Int32).toNatClampNeg) = 0 → (vp_in r52 200 ∧ ((¬ (h55.1 46 (r52 : Int32).toNatClampNeg) = 0 → b_M_doTwo_34 post (l1) (l2) (r52) (r54) h55) ∧ ((h55.1 46 (r52 : Int32).toNatClampNeg) = 0 → b_M_doTwo_35 post (l1) (l2) (r52) (r54) (1) h55))))))))
set_option maxRecDepth 100000 in
set_option maxHeartbeats 4000000 in
theorem w_M_doTwo_143 {l : Launch} {E : zE} {G : (Nat → Prop) → State → Prop} {p : Program} {e : Env} {s : State} {m : MethodId} {args : Array Value} {below : List Frame} {meth : Method} {c : Code} {A : Nat → Prop} {post : zH → Prop} (hG : xGG E G) (C : zCx p s m args meth c E G A 2 51 prog_10_method_23_code 20 cn_M) (hr : meth.sig.returnType = none)  (l2 : Int32) (h : zH) (hw : b_M_doTwo_143 post l2 h) : zGo p l e s m args below meth c E A 2 51 20 (zPv post) h 143 [some (.ref (E.2.2.1 39)), none, some (.int l2), none, none, none, none, none, none, none, none, none, none, none, none, none, none, none, none, none] [] := by
  unfold b_M_doTwo_143 at hw
  refine z_aload_n C (i := 0) d_M_doTwo_143 rfl rfl ?_
  refine z_iconst C (v := 2) d_M_doTwo_144 (by decide) ?_
  refine z_iload_n C (i := 2) d_M_doTwo_145 rfl rfl ?_
  refine z_callVv ⟨xN_ok, hG.1⟩ zT_good C (t_M_bad hG hw) ol_M_124 (by decide) rfl rfl (by decide) (by decide) pl_M_bad rfl rfl (Nat.le_of_ble_eq_true rfl) d_M_doTwo_146 (fun h2 hw => ?_)
  exact z_vret C hr d_M_doTwo_149 hw
set_option maxRecDepth 100000 in
set_option maxHeartbeats 4000000 in
theorem w_M_doTwo_567 {l : Launch} {E : zE} {G : (Nat → Prop) → State → Prop} {p : Program} {e : Env} {s : State} {m : MethodId} {args : Array Value} {below : List Frame} {meth : Method} {c : Code} {A : Nat → Prop} {post : zH → Prop} (hG : xGG E G) (C : zCx p s m args meth c E G A 2 51 prog_10_method_23_code 20 cn_M) (hr : meth.sig.returnType = none)  (l1 : Int32) (l2 : Int32) (l3 : Int32) (l4 : Int32) (l9 : Int32) (h : zH) (hw : b_M_doTwo_567 post l1 l2 l3 l4 l9 h) : zGo p l e s m args below meth c E A 2 51 20 (zPv post) h 567 [some (.ref (E.2.2.1 39)), some (.int l1), some (.int l2), some (.int l3), some (.int l4), none, none, none, none, some (.int l9), none, none, none, none, none, none, none, none, none, none] [] := by
  unfold b_M_doTwo_567 at hw
  refine z_aload_n C (i := 0) d_M_doTwo_567 rfl rfl ?_
  refine z_iload_n C (i := 1) d_M_doTwo_568 rfl rfl ?_
  refine z_iload_n C (i := 2) d_M_doTwo_569 rfl rfl ?_
  refine z_iload C d_M_doTwo_570 rfl ?_
  refine z_aload_n C (i := 0) d_M_doTwo_572 rfl rfl ?_
  refine z_getL C (ci := 8) (j := 32) (F := cf_M) (by decide) rfl rfl in_M (by decide) fl_M_144 rfl d_M_doTwo_573 ?_
  refine z_aload_n C (i := 0) d_M_doTwo_576 rfl rfl ?_
  refine z_getL C (ci := 8) (j := 33) (F := cf_M) (by decide) rfl rfl in_M (by decide) fl_M_150 rfl d_M_doTwo_577 ?_
  refine z_callVi ⟨xN_ok, hG.1⟩ zT_good C (t_M_part5 hG hw) ol_M_167 (by decide) rfl rfl (by decide) (by decide) pl_M_part5 rfl rfl (Nat.le_of_ble_eq_true rfl) d_M_doTwo_580 (fun r3 h4 hw => ?_)
  refine z_istore C d_M_doTwo_583 (by decide) rfl ?_
  refine z_aload_n C (i := 0) d_M_doTwo_585 rfl rfl ?_
  refine z_getS C (ci := 8) (j := 17) (F := cf_M) (by decide) rfl rfl in_M (by decide) fl_M_38 rfl d_M_doTwo_586 ?_
  refine z_iload C d_M_doTwo_589 rfl ?_
  refine z_iload C d_M_doTwo_591 rfl ?_
  refine z_iast C (by decide) rfl hw.1 d_M_doTwo_593 (fun h5 eh5 => ?_)
  replace hw := hw.2 h5 eh5
  refine z_aload_n C (i := 0) d_M_doTwo_594 rfl rfl ?_
  refine z_getS C (ci := 8) (j := 18) (F := cf_M) (by decide) rfl rfl in_M (by decide) fl_M_41 rfl d_M_doTwo_595 ?_
  refine z_iload C d_M_doTwo_598 rfl ?_
  refine z_iload_n C (i := 3) d_M_doTwo_600 rfl rfl ?_
  refine z_iast C (by decide) rfl hw.1 d_M_doTwo_601 (fun h6 eh6 => ?_)
  replace hw := hw.2 h6 eh6
  refine z_aload_n C (i := 0) d_M_doTwo_602 rfl rfl ?_
  refine z_getS C (ci := 8) (j := 20) (F := cf_M) (by decide) rfl rfl in_M (by decide) fl_M_47 rfl d_M_doTwo_603 ?_
  refine z_iload C d_M_doTwo_606 rfl ?_
  refine z_iconst C (v := 1) d_M_doTwo_608 (by decide) ?_
  refine z_aload_n C (i := 0) d_M_doTwo_609 rfl rfl ?_
  refine z_getS C (ci := 8) (j := 20) (F := cf_M) (by decide) rfl rfl in_M (by decide) fl_M_47 rfl d_M_doTwo_610 ?_
  refine z_iload C d_M_doTwo_613 rfl ?_
  refine z_iald C (by decide) rfl hw.1 d_M_doTwo_615 ?_
  replace hw := hw.2
  refine z_i2l C d_M_doTwo_616 ?_
  refine z_aload_n C (i := 0) d_M_doTwo_617 rfl rfl ?_
  refine z_getS C (ci := 8) (j := 20) (F := cf_M) (by decide) rfl rfl in_M (by decide) fl_M_47 rfl d_M_doTwo_618 ?_
  refine z_iload_n C (i := 3) d_M_doTwo_621 rfl rfl ?_
  refine z_iald C (by decide) rfl hw.1 d_M_doTwo_622 ?_
  replace hw := hw.2
  refine z_i2l C d_M_doTwo_623 ?_
  refine z_callSl ⟨xN_ok, hG.1⟩ zT_good C (t_M_greater hG hw) ol_M_147 (by decide) (by decide) pl_M_greater rfl rfl (Nat.le_of_ble_eq_true rfl) d_M_doTwo_624 (fun r7 h8 hw => ?_)
  refine z_l2i C d_M_doTwo_627 ?_
  refine z_iadd C d_M_doTwo_628 ?_
  refine z_iast C (by decide) rfl hw.1 d_M_doTwo_629 (fun h9 eh9 => ?_)
  replace hw := hw.2 h9 eh9
  refine z_aload_n C (i := 0) d_M_doTwo_630 rfl rfl ?_
  refine z_iload C d_M_doTwo_631 rfl ?_
  refine z_callVv ⟨xN_ok, hG.1⟩ zT_good C (t_M_push hG hw) ol_M_171 (by decide) rfl rfl (by decide) (by decide) pl_M_push rfl rfl (Nat.le_of_ble_eq_true rfl) d_M_doTwo_633 (fun h11 hw => ?_)
  exact z_vret C hr d_M_doTwo_636 hw
set_option maxRecDepth 100000 in
set_option maxHeartbeats 4000000 in
theorem w_M_doTwo_561 {l : Launch} {E : zE} {G : (Nat → Prop) → State → Prop} {p : Program} {e : Env} {s : State} {m : MethodId} {args : Array Value} {below : List Frame} {meth : Method} {c : Code} {A : Nat → Prop} {post : zH → Prop} (hG : xGG E G) (C : zCx p s m args meth c E G A 2 51 prog_10_method_23_code 20 cn_M) (hr : meth.sig.returnType = none)  (l1 : Int32) (l2 : Int32) (l3 : Int32) (l4 : Int32) (l9 : Int32) (h : zH) (hw : b_M_doTwo_561 post l1 l2 l3 l4 l9 h) : zGo p l e s m args below meth c E A 2 51 20 (zPv post) h 561 [some (.ref (E.2.2.1 39)), some (.int l1), some (.int l2), some (.int l3), some (.int l4), none, none, none, none, some (.int l9), none, none, none, none, none, none, none, none, none, none] [] := by
  unfold b_M_doTwo_561 at hw
  refine z_aload_n C (i := 0) d_M_doTwo_561 rfl rfl ?_
  refine z_iconst C (v := 4) d_M_doTwo_562 (by decide) ?_
  refine z_iload_n C (i := 2) d_M_doTwo_563 rfl rfl ?_
  refine z_callVv ⟨xN_ok, hG.1⟩ zT_good C (t_M_bad hG hw) ol_M_124 (by decide) rfl rfl (by decide) (by decide) pl_M_bad rfl rfl (Nat.le_of_ble_eq_true rfl) d_M_doTwo_564 (fun h13 hw => ?_)
  refine z_le (lv2 := [some (.ref (E.2.2.1 39)), some (.int l1), some (.int l2), some (.int l3), some (.int l4), none, none, none, none, some (.int l9), none, none, none, none, none, none, none, none, none, none]) (⟨rfl, ⟨rfl, ⟨rfl, ⟨rfl, ⟨rfl, ⟨rfl, trivial⟩⟩⟩⟩⟩⟩) ?_
  exact w_M_doTwo_567 hG C hr _ _ _ _ _ _ hw
set_option maxRecDepth 100000 in
set_option maxHeartbeats 4000000 in
theorem w_M_doTwo_539 {l : Launch} {E : zE} {G : (Nat → Prop) → State → Prop} {p : Program} {e : Env} {s : State} {m : MethodId} {args : Array Value} {below : List Frame} {meth : Method} {c : Code} {A : Nat → Prop} {post : zH → Prop} (hG : xGG E G) (C : zCx p s m args meth c E G A 2 51 prog_10_method_23_code 20 cn_M) (hr : meth.sig.returnType = none)  (l1 : Int32) (l2 : Int32) (l3 : Int32) (l4 : Int32) (l9 : Int32) (h : zH) (hw : b_M_doTwo_539 post l1 l2 l3 l4 l9 h) : zGo p l e s m args below meth c E A 2 51 20 (zPv post) h 539 [some (.ref (E.2.2.1 39)), some (.int l1), some (.int l2), some (.int l3), some (.int l4), none, none, none, none, some (.int l9), none, none, none, none, none, none, none, none, none, none] [] := by
  unfold b_M_doTwo_539 at hw
  refine z_aload_n C (i := 0) d_M_doTwo_539 rfl rfl ?_
  refine z_getL C (ci := 8) (j := 32) (F := cf_M) (by decide) rfl rfl in_M (by decide) fl_M_144 rfl d_M_doTwo_540 ?_
  refine z_ldc2 C (v := (-2000000000)) kl_M_75 d_M_doTwo_543 ?_
  refine z_lcmp C d_M_doTwo_546 ?_
  refine z_if_lt C (tgt := 561) d_M_doTwo_547 (by decide) (fun q => ?_) (fun q => ?_)
  · replace hw := hw.1 q
    refine z_le (lv2 := [some (.ref (E.2.2.1 39)), some (.int l1), some (.int l2), some (.int l3), some (.int l4), none, none, none, none, some (.int l9), none, none, none, none, none, none, none, none, none, none]) (⟨rfl, ⟨rfl, ⟨rfl, ⟨rfl, ⟨rfl, ⟨rfl, trivial⟩⟩⟩⟩⟩⟩) ?_
    exact w_M_doTwo_561 hG C hr _ _ _ _ _ _ hw
  · replace hw := hw.2 q
    refine z_aload_n C (i := 0) d_M_doTwo_550 rfl rfl ?_
    refine z_getL C (ci := 8) (j := 33) (F := cf_M) (by decide) rfl rfl in_M (by decide) fl_M_150 rfl d_M_doTwo_551 ?_
    refine z_ldc2 C (v := 2000000000) kl_M_77 d_M_doTwo_554 ?_
    refine z_lcmp C d_M_doTwo_557 ?_
    refine z_if_le C (tgt := 567) d_M_doTwo_558 (by decide) (fun q => ?_) (fun q => ?_)
    · replace hw := hw.1 q
      refine z_le (lv2 := [some (.ref (E.2.2.1 39)), some (.int l1), some (.int l2), some (.int l3), some (.int l4), none, none, none, none, some (.int l9), none, none, none, none, none, none, none, none, none, none]) (⟨rfl, ⟨rfl, ⟨rfl, ⟨rfl, ⟨rfl, ⟨rfl, trivial⟩⟩⟩⟩⟩⟩) ?_
      exact w_M_doTwo_567 hG C hr _ _ _ _ _ _ hw
    · replace hw := hw.2 q
      refine z_le (lv2 := [some (.ref (E.2.2.1 39)), some (.int l1), some (.int l2), some (.int l3), some (.int l4), none, none, none, none, some (.int l9), none, none, none, none, none, none, none, none, none, none]) (⟨rfl, ⟨rfl, ⟨rfl, ⟨rfl, ⟨rfl, ⟨rfl, trivial⟩⟩⟩⟩⟩⟩) ?_
      exact w_M_doTwo_561 hG C hr _ _ _ _ _ _ hw
set_option maxRecDepth 100000 in
set_option maxHeartbeats 4000000 in
theorem w_M_doTwo_533 {l : Launch} {E : zE} {G : (Nat → Prop) → State → Prop} {p : Program} {e : Env} {s : State} {m : MethodId} {args : Array Value} {below : List Frame} {meth : Method} {c : Code} {A : Nat → Prop} {post : zH → Prop} (hG : xGG E G) (C : zCx p s m args meth c E G A 2 51 prog_10_method_23_code 20 cn_M) (hr : meth.sig.returnType = none)  (l1 : Int32) (l2 : Int32) (l3 : Int32) (l4 : Int32) (l9 : Int32) (s0 : Int64) (h : zH) (hw : b_M_doTwo_533 post l1 l2 l3 l4 l9 s0 h) : zGo p l e s m args below meth c E A 2 51 20 (zPv post) h 533 [some (.ref (E.2.2.1 39)), some (.int l1), some (.int l2), some (.int l3), some (.int l4), none, none, none, none, some (.int l9), none, none, none, none, none, none, none, none, none, none] [.long s0, .ref (E.2.2.1 39)] := by
  unfold b_M_doTwo_533 at hw
  refine z_putL C (ci := 8) (j := 33) (F := cf_M) ct_M (by decide) rfl rfl in_M ty_M nm_M (by decide) fl_M_150 rfl (by decide +kernel) rfl d_M_doTwo_533 (fun h14 eh14 => ?_)
  replace hw := hw h14 eh14
  refine z_goto C (tgt := 539) d_M_doTwo_536 (by decide) ?_
  refine z_le (lv2 := [some (.ref (E.2.2.1 39)), some (.int l1), some (.int l2), some (.int l3), some (.int l4), none, none, none, none, some (.int l9), none, none, none, none, none, none, none, none, none, none]) (⟨rfl, ⟨rfl, ⟨rfl, ⟨rfl, ⟨rfl, ⟨rfl, trivial⟩⟩⟩⟩⟩⟩) ?_
  exact w_M_doTwo_539 hG C hr _ _ _ _ _ _ hw
set_option maxRecDepth 100000 in
set_option maxHeartbeats 4000000 in
theorem w_M_doTwo_511 {l : Launch} {E : zE} {G : (Nat → Prop) → State → Prop} {p : Program} {e : Env} {s : State} {m : MethodId} {args : Array Value} {below : List Frame} {meth : Method} {c : Code} {A : Nat → Prop} {post : zH → Prop} (hG : xGG E G) (C : zCx p s m args meth c E G A 2 51 prog_10_method_23_code 20 cn_M) (hr : meth.sig.returnType = none)  (l1 : Int32) (l2 : Int32) (l3 : Int32) (l4 : Int32) (l9 : Int32) (l12 : Int64) (l18 : Int64) (s0 : Int64) (h : zH) (hw : b_M_doTwo_511 post l1 l2 l3 l4 l9 l12 l18 s0 h) : zGo p l e s m args below meth c E A 2 51 20 (zPv post) h 511 [some (.ref (E.2.2.1 39)), some (.int l1), some (.int l2), some (.int l3), some (.int l4), none, none, none, none, some (.int l9), none, none, some (.long l12), none, none, none, none, none, some (.long l18), none] [.long s0, .ref (E.2.2.1 39)] := by
  unfold b_M_doTwo_511 at hw
  refine z_putL C (ci := 8) (j := 32) (F := cf_M) ct_M (by decide) rfl rfl in_M ty_M nm_M (by decide) fl_M_144 rfl (by decide +kernel) rfl d_M_doTwo_511 (fun h15 eh15 => ?_)
  replace hw := hw h15 eh15
  refine z_aload_n C (i := 0) d_M_doTwo_514 rfl rfl ?_
  refine z_lload C d_M_doTwo_515 rfl ?_
  refine z_lconst C (v := 0) d_M_doTwo_517 (by decide) ?_
  refine z_lcmp C d_M_doTwo_518 ?_
  refine z_if_le C (tgt := 532) d_M_doTwo_519 (by decide) (fun q => ?_) (fun q => ?_)
  · replace hw := hw.1 q
    refine z_lconst C (v := 0) d_M_doTwo_532 (by decide) ?_
    refine z_le (lv2 := [some (.ref (E.2.2.1 39)), some (.int l1), some (.int l2), some (.int l3), some (.int l4), none, none, none, none, some (.int l9), none, none, none, none, none, none, none, none, none, none]) (⟨rfl, ⟨rfl, ⟨rfl, ⟨rfl, ⟨rfl, ⟨rfl, trivial⟩⟩⟩⟩⟩⟩) ?_
    exact w_M_doTwo_533 hG C hr _ _ _ _ _ _ _ hw
  · replace hw := hw.2 q
    refine z_lload C d_M_doTwo_522 rfl ?_
    refine z_lload C d_M_doTwo_524 rfl ?_
    refine z_callSl ⟨xN_ok, hG.1⟩ zT_good C (t_M_lesser hG hw) ol_M_140 (by decide) (by decide) pl_M_lesser rfl rfl (Nat.le_of_ble_eq_true rfl) d_M_doTwo_526 (fun r16 h17 hw => ?_)
    refine z_goto C (tgt := 533) d_M_doTwo_529 (by decide) ?_
    refine z_le (lv2 := [some (.ref (E.2.2.1 39)), some (.int l1), some (.int l2), some (.int l3), some (.int l4), none, none, none, none, some (.int l9), none, none, none, none, none, none, none, none, none, none]) (⟨rfl, ⟨rfl, ⟨rfl, ⟨rfl, ⟨rfl, ⟨rfl, trivial⟩⟩⟩⟩⟩⟩) ?_
    exact w_M_doTwo_533 hG C hr _ _ _ _ _ _ _ hw
set_option maxRecDepth 100000 in
set_option maxHeartbeats 4000000 in
theorem w_M_doTwo_440 {l : Launch} {E : zE} {G : (Nat → Prop) → State → Prop} {p : Program} {e : Env} {s : State} {m : MethodId} {args : Array Value} {below : List Frame} {meth : Method} {c : Code} {A : Nat → Prop} {post : zH → Prop} (hG : xGG E G) (C : zCx p s m args meth c E G A 2 51 prog_10_method_23_code 20 cn_M) (hr : meth.sig.returnType = none)  (l1 : Int32) (l2 : Int32) (l3 : Int32) (l4 : Int32) (l9 : Int32) (l10 : Int64) (l12 : Int64) (l14 : Int64) (l16 : Int64) (h : zH) (hw : b_M_doTwo_440 post l1 l2 l3 l4 l9 l10 l12 l14 l16 h) : zGo p l e s m args below meth c E A 2 51 20 (zPv post) h 440 [some (.ref (E.2.2.1 39)), some (.int l1), some (.int l2), some (.int l3), some (.int l4), none, none, none, none, some (.int l9), some (.long l10), none, some (.long l12), none, some (.long l14), none, some (.long l16), none, none, none] [] := by
  unfold b_M_doTwo_440 at hw
  refine z_lload C d_M_doTwo_440 rfl ?_
  refine z_callSl ⟨xN_ok, hG.1⟩ zT_good C (t_M_size hG hw) ol_M_164 (by decide) (by decide) pl_M_size rfl rfl (Nat.le_of_ble_eq_true rfl) d_M_doTwo_442 (fun r18 h19 hw => ?_)
  refine z_lload C d_M_doTwo_445 rfl ?_
  refine z_callSl ⟨xN_ok, hG.1⟩ zT_good C (t_M_size hG hw) ol_M_164 (by decide) (by decide) pl_M_size rfl rfl (Nat.le_of_ble_eq_true rfl) d_M_doTwo_447 (fun r20 h21 hw => ?_)
  refine z_callSl ⟨xN_ok, hG.1⟩ zT_good C (t_M_greater hG hw) ol_M_147 (by decide) (by decide) pl_M_greater rfl rfl (Nat.le_of_ble_eq_true rfl) d_M_doTwo_450 (fun r22 h23 hw => ?_)
  refine z_lconst C (v := 1) d_M_doTwo_453 (by decide) ?_
  refine z_lsub C d_M_doTwo_454 ?_
  refine z_lstore C d_M_doTwo_455 (by decide) rfl ?_
  refine z_iload_n C (i := 1) d_M_doTwo_457 rfl rfl ?_
  refine z_bipush C (v := 47) d_M_doTwo_458 (by decide) ?_
  refine z_icmp_ne C (tgt := 490) d_M_doTwo_460 (by decide) (fun q => ?_) (fun q => ?_)
  · replace hw := hw.1 q
    refine z_aload_n C (i := 0) d_M_doTwo_490 rfl rfl ?_
    refine z_lload C d_M_doTwo_491 rfl ?_
    refine z_lconst C (v := 0) d_M_doTwo_493 (by decide) ?_
    refine z_lcmp C d_M_doTwo_494 ?_
    refine z_if_ge C (tgt := 510) d_M_doTwo_495 (by decide) (fun q => ?_) (fun q => ?_)
    · replace hw := hw.1 q
      refine z_lconst C (v := 0) d_M_doTwo_510 (by decide) ?_
      refine z_le (lv2 := [some (.ref (E.2.2.1 39)), some (.int l1), some (.int l2), some (.int l3), some (.int l4), none, none, none, none, some (.int l9), none, none, some (.long l12), none, none, none, none, none, some (.long (r22 - 1)), none]) (⟨rfl, ⟨rfl, ⟨rfl, ⟨rfl, ⟨rfl, ⟨rfl, ⟨rfl, ⟨rfl, trivial⟩⟩⟩⟩⟩⟩⟩⟩) ?_
      exact w_M_doTwo_511 hG C hr _ _ _ _ _ _ _ _ _ hw
    · replace hw := hw.2 q
      refine z_lload C d_M_doTwo_498 rfl ?_
      refine z_lload C d_M_doTwo_500 rfl ?_
      refine z_lneg C d_M_doTwo_502 ?_
      refine z_callSl ⟨xN_ok, hG.1⟩ zT_good C (t_M_lesser hG hw) ol_M_140 (by decide) (by decide) pl_M_lesser rfl rfl (Nat.le_of_ble_eq_true rfl) d_M_doTwo_503 (fun r24 h25 hw => ?_)
      refine z_lneg C d_M_doTwo_506 ?_
      refine z_goto C (tgt := 511) d_M_doTwo_507 (by decide) ?_
      refine z_le (lv2 := [some (.ref (E.2.2.1 39)), some (.int l1), some (.int l2), some (.int l3), some (.int l4), none, none, none, none, some (.int l9), none, none, some (.long l12), none, none, none, none, none, some (.long (r22 - 1)), none]) (⟨rfl, ⟨rfl, ⟨rfl, ⟨rfl, ⟨rfl, ⟨rfl, ⟨rfl, ⟨rfl, trivial⟩⟩⟩⟩⟩⟩⟩⟩) ?_
      exact w_M_doTwo_511 hG C hr _ _ _ _ _ _ _ _ _ hw
  · replace hw := hw.2 q
    refine z_aload_n C (i := 0) d_M_doTwo_463 rfl rfl ?_
    refine z_lload C d_M_doTwo_464 rfl ?_
    refine z_lload C d_M_doTwo_466 rfl ?_
    refine z_ldiv C d_M_doTwo_468 hw.1 ?_
    replace hw := hw.2
    refine z_lload C d_M_doTwo_469 rfl ?_
    refine z_lload C d_M_doTwo_471 rfl ?_
    refine z_ldiv C d_M_doTwo_473 hw.1 ?_
    replace hw := hw.2
    refine z_lload C d_M_doTwo_474 rfl ?_
    refine z_lload C d_M_doTwo_476 rfl ?_
    refine z_ldiv C d_M_doTwo_478 hw.1 ?_
    replace hw := hw.2
    refine z_lload C d_M_doTwo_479 rfl ?_
    refine z_lload C d_M_doTwo_481 rfl ?_
    refine z_ldiv C d_M_doTwo_483 hw.1 ?_
    replace hw := hw.2
    refine z_callVv ⟨xN_ok, hG.1⟩ zT_good C (t_M_ends hG hw) ol_M_160 (by decide) rfl rfl (by decide) (by decide) pl_M_ends rfl rfl (Nat.le_of_ble_eq_true rfl) d_M_doTwo_484 (fun h27 hw => ?_)
    refine z_goto C (tgt := 539) d_M_doTwo_487 (by decide) ?_
    refine z_le (lv2 := [some (.ref (E.2.2.1 39)), some (.int l1), some (.int l2), some (.int l3), some (.int l4), none, none, none, none, some (.int l9), none, none, none, none, none, none, none, none, none, none]) (⟨rfl, ⟨rfl, ⟨rfl, ⟨rfl, ⟨rfl, ⟨rfl, trivial⟩⟩⟩⟩⟩⟩) ?_
    exact w_M_doTwo_539 hG C hr _ _ _ _ _ _ hw
set_option maxRecDepth 100000 in
set_option maxHeartbeats 4000000 in
theorem w_M_doTwo_419 {l : Launch} {E : zE} {G : (Nat → Prop) → State → Prop} {p : Program} {e : Env} {s : State} {m : MethodId} {args : Array Value} {below : List Frame} {meth : Method} {c : Code} {A : Nat → Prop} {post : zH → Prop} (hG : xGG E G) (C : zCx p s m args meth c E G A 2 51 prog_10_method_23_code 20 cn_M) (hr : meth.sig.returnType = none)  (l1 : Int32) (l2 : Int32) (l3 : Int32) (l4 : Int32) (l9 : Int32) (l10 : Int64) (l12 : Int64) (l14 : Int64) (l16 : Int64) (h : zH) (hw : b_M_doTwo_419 post l1 l2 l3 l4 l9 l10 l12 l14 l16 h) : zGo p l e s m args below meth c E A 2 51 20 (zPv post) h 419 [some (.ref (E.2.2.1 39)), some (.int l1), some (.int l2), some (.int l3), some (.int l4), none, none, none, none, some (.int l9), some (.long l10), none, some (.long l12), none, some (.long l14), none, some (.long l16), none, none, none] [] := by
  unfold b_M_doTwo_419 at hw
  refine z_lload C d_M_doTwo_419 rfl ?_
  refine z_lconst C (v := 0) d_M_doTwo_421 (by decide) ?_
  refine z_lcmp C d_M_doTwo_422 ?_
  refine z_if_gt C (tgt := 440) d_M_doTwo_423 (by decide) (fun q => ?_) (fun q => ?_)
  · replace hw := hw.1 q
    refine z_le (lv2 := [some (.ref (E.2.2.1 39)), some (.int l1), some (.int l2), some (.int l3), some (.int l4), none, none, none, none, some (.int l9), some (.long l10), none, some (.long l12), none, some (.long l14), none, some (.long l16), none, none, none]) (⟨rfl, ⟨rfl, ⟨rfl, ⟨rfl, ⟨rfl, ⟨rfl, ⟨rfl, ⟨rfl, ⟨rfl, ⟨rfl, trivial⟩⟩⟩⟩⟩⟩⟩⟩⟩⟩) ?_
    exact w_M_doTwo_440 hG C hr _ _ _ _ _ _ _ _ _ _ hw
  · replace hw := hw.2 q
    refine z_lload C d_M_doTwo_426 rfl ?_
    refine z_lconst C (v := 0) d_M_doTwo_428 (by decide) ?_
    refine z_lcmp C d_M_doTwo_429 ?_
    refine z_if_lt C (tgt := 440) d_M_doTwo_430 (by decide) (fun q => ?_) (fun q => ?_)
    · replace hw := hw.1 q
      refine z_le (lv2 := [some (.ref (E.2.2.1 39)), some (.int l1), some (.int l2), some (.int l3), some (.int l4), none, none, none, none, some (.int l9), some (.long l10), none, some (.long l12), none, some (.long l14), none, some (.long l16), none, none, none]) (⟨rfl, ⟨rfl, ⟨rfl, ⟨rfl, ⟨rfl, ⟨rfl, ⟨rfl, ⟨rfl, ⟨rfl, ⟨rfl, trivial⟩⟩⟩⟩⟩⟩⟩⟩⟩⟩) ?_
      exact w_M_doTwo_440 hG C hr _ _ _ _ _ _ _ _ _ _ hw
    · replace hw := hw.2 q
      refine z_aload_n C (i := 0) d_M_doTwo_433 rfl rfl ?_
      refine z_iconst C (v := 3) d_M_doTwo_434 (by decide) ?_
      refine z_iload_n C (i := 2) d_M_doTwo_435 rfl rfl ?_
      refine z_callVv ⟨xN_ok, hG.1⟩ zT_good C (t_M_bad hG hw) ol_M_124 (by decide) rfl rfl (by decide) (by decide) pl_M_bad rfl rfl (Nat.le_of_ble_eq_true rfl) d_M_doTwo_436 (fun h29 hw => ?_)
      exact z_vret C hr d_M_doTwo_439 hw
set_option maxRecDepth 100000 in
set_option maxHeartbeats 4000000 in
theorem w_M_doTwo_173 {l : Launch} {E : zE} {G : (Nat → Prop) → State → Prop} {p : Program} {e : Env} {s : State} {m : MethodId} {args : Array Value} {below : List Frame} {meth : Method} {c : Code} {A : Nat → Prop} {post : zH → Prop} (hG : xGG E G) (C : zCx p s m args meth c E G A 2 51 prog_10_method_23_code 20 cn_M) (hr : meth.sig.returnType = none)  (l1 : Int32) (l2 : Int32) (l3 : Int32) (l4 : Int32) (s0 : Int32) (h : zH) (hw : b_M_doTwo_173 post l1 l2 l3 l4 s0 h) : zGo p l e s m args below meth c E A 2 51 20 (zPv post) h 173 [some (.ref (E.2.2.1 39)), some (.int l1), some (.int l2), some (.int l3), some (.int l4), none, none, none, none, none, none, none, none, none, none, none, none, none, none, none] [.int s0] := by
  unfold b_M_doTwo_173 at hw
  refine z_istore C d_M_doTwo_173 (by decide) rfl ?_
  refine z_aload_n C (i := 0) d_M_doTwo_175 rfl rfl ?_
  refine z_getS C (ci := 8) (j := 15) (F := cf_M) (by decide) rfl rfl in_M (by decide) fl_M_31 rfl d_M_doTwo_176 ?_
  refine z_iload C d_M_doTwo_179 rfl ?_
  refine z_lald C (by decide) rfl hw.1 d_M_doTwo_181 ?_
  replace hw := hw.2
  refine z_lstore C d_M_doTwo_182 (by decide) rfl ?_
  refine z_aload_n C (i := 0) d_M_doTwo_184 rfl rfl ?_
  refine z_getS C (ci := 8) (j := 16) (F := cf_M) (by decide) rfl rfl in_M (by decide) fl_M_35 rfl d_M_doTwo_185 ?_
  refine z_iload C d_M_doTwo_188 rfl ?_
  refine z_lald C (by decide) rfl hw.1 d_M_doTwo_190 ?_
  replace hw := hw.2
  refine z_lstore C d_M_doTwo_191 (by decide) rfl ?_
  refine z_aload_n C (i := 0) d_M_doTwo_193 rfl rfl ?_
  refine z_getS C (ci := 8) (j := 15) (F := cf_M) (by decide) rfl rfl in_M (by decide) fl_M_31 rfl d_M_doTwo_194 ?_
  refine z_iload_n C (i := 3) d_M_doTwo_197 rfl rfl ?_
  refine z_lald C (by decide) rfl hw.1 d_M_doTwo_198 ?_
  replace hw := hw.2
  refine z_lstore C d_M_doTwo_199 (by decide) rfl ?_
  refine z_aload_n C (i := 0) d_M_doTwo_201 rfl rfl ?_
  refine z_getS C (ci := 8) (j := 16) (F := cf_M) (by decide) rfl rfl in_M (by decide) fl_M_35 rfl d_M_doTwo_202 ?_
  refine z_iload_n C (i := 3) d_M_doTwo_205 rfl rfl ?_
  refine z_lald C (by decide) rfl hw.1 d_M_doTwo_206 ?_
  replace hw := hw.2
  refine z_lstore C d_M_doTwo_207 (by decide) rfl ?_
  refine z_aload_n C (i := 0) d_M_doTwo_209 rfl rfl ?_
  refine z_lconst C (v := 0) d_M_doTwo_210 (by decide) ?_
  refine z_putL C (ci := 8) (j := 32) (F := cf_M) ct_M (by decide) rfl rfl in_M ty_M nm_M (by decide) fl_M_144 rfl (by decide +kernel) rfl d_M_doTwo_211 (fun h30 eh30 => ?_)
  replace hw := hw h30 eh30
  refine z_aload_n C (i := 0) d_M_doTwo_214 rfl rfl ?_
  refine z_lconst C (v := 1) d_M_doTwo_215 (by decide) ?_
  refine z_putL C (ci := 8) (j := 33) (F := cf_M) ct_M (by decide) rfl rfl in_M ty_M nm_M (by decide) fl_M_150 rfl (by decide +kernel) rfl d_M_doTwo_216 (fun h31 eh31 => ?_)
  replace hw := hw h31 eh31
  refine z_iload_n C (i := 1) d_M_doTwo_219 rfl rfl ?_
  refine z_lcase C (off := 149) (tgt := 369) (4 : Int32) d_M_doTwo_220 (by decide) (by decide) (by decide) (fun q0 => ?_) (fun q0 => ?_)
  · replace hw := hw.1 q0
    refine z_aload_n C (i := 0) d_M_doTwo_369 rfl rfl ?_
    refine z_lload C d_M_doTwo_370 rfl ?_
    refine z_lload C d_M_doTwo_372 rfl ?_
    refine z_callSl ⟨xN_ok, hG.1⟩ zT_good C (t_M_lesser hG hw) ol_M_140 (by decide) (by decide) pl_M_lesser rfl rfl (Nat.le_of_ble_eq_true rfl) d_M_doTwo_374 (fun r32 h33 hw => ?_)
    refine z_putL C (ci := 8) (j := 32) (F := cf_M) ct_M (by decide) rfl rfl in_M ty_M nm_M (by decide) fl_M_144 rfl (by decide +kernel) rfl d_M_doTwo_377 (fun h34 eh34 => ?_)
    replace hw := hw h34 eh34
    refine z_aload_n C (i := 0) d_M_doTwo_380 rfl rfl ?_
    refine z_lload C d_M_doTwo_381 rfl ?_
    refine z_lload C d_M_doTwo_383 rfl ?_
    refine z_callSl ⟨xN_ok, hG.1⟩ zT_good C (t_M_lesser hG hw) ol_M_140 (by decide) (by decide) pl_M_lesser rfl rfl (Nat.le_of_ble_eq_true rfl) d_M_doTwo_385 (fun r35 h36 hw => ?_)
    refine z_putL C (ci := 8) (j := 33) (F := cf_M) ct_M (by decide) rfl rfl in_M ty_M nm_M (by decide) fl_M_150 rfl (by decide +kernel) rfl d_M_doTwo_388 (fun h37 eh37 => ?_)
    replace hw := hw h37 eh37
    refine z_goto C (tgt := 539) d_M_doTwo_391 (by decide) ?_
    refine z_le (lv2 := [some (.ref (E.2.2.1 39)), some (.int l1), some (.int l2), some (.int l3), some (.int l4), none, none, none, none, some (.int s0), none, none, none, none, none, none, none, none, none, none]) (⟨rfl, ⟨rfl, ⟨rfl, ⟨rfl, ⟨rfl, ⟨rfl, trivial⟩⟩⟩⟩⟩⟩) ?_
    exact w_M_doTwo_539 hG C hr _ _ _ _ _ _ hw
  replace hw := hw.2 q0
  refine z_lcase C (off := 174) (tgt := 394) (5 : Int32) d_M_doTwo_220 (by decide) (by decide) (by decide) (fun q1 => ?_) (fun q1 => ?_)
  · replace hw := hw.1 q1
    refine z_aload_n C (i := 0) d_M_doTwo_394 rfl rfl ?_
    refine z_lload C d_M_doTwo_395 rfl ?_
    refine z_lload C d_M_doTwo_397 rfl ?_
    refine z_callSl ⟨xN_ok, hG.1⟩ zT_good C (t_M_greater hG hw) ol_M_147 (by decide) (by decide) pl_M_greater rfl rfl (Nat.le_of_ble_eq_true rfl) d_M_doTwo_399 (fun r38 h39 hw => ?_)
    refine z_putL C (ci := 8) (j := 32) (F := cf_M) ct_M (by decide) rfl rfl in_M ty_M nm_M (by decide) fl_M_144 rfl (by decide +kernel) rfl d_M_doTwo_402 (fun h40 eh40 => ?_)
    replace hw := hw h40 eh40
    refine z_aload_n C (i := 0) d_M_doTwo_405 rfl rfl ?_
    refine z_lload C d_M_doTwo_406 rfl ?_
    refine z_lload C d_M_doTwo_408 rfl ?_
    refine z_callSl ⟨xN_ok, hG.1⟩ zT_good C (t_M_greater hG hw) ol_M_147 (by decide) (by decide) pl_M_greater rfl rfl (Nat.le_of_ble_eq_true rfl) d_M_doTwo_410 (fun r41 h42 hw => ?_)
    refine z_putL C (ci := 8) (j := 33) (F := cf_M) ct_M (by decide) rfl rfl in_M ty_M nm_M (by decide) fl_M_150 rfl (by decide +kernel) rfl d_M_doTwo_413 (fun h43 eh43 => ?_)
    replace hw := hw h43 eh43
    refine z_goto C (tgt := 539) d_M_doTwo_416 (by decide) ?_
    refine z_le (lv2 := [some (.ref (E.2.2.1 39)), some (.int l1), some (.int l2), some (.int l3), some (.int l4), none, none, none, none, some (.int s0), none, none, none, none, none, none, none, none, none, none]) (⟨rfl, ⟨rfl, ⟨rfl, ⟨rfl, ⟨rfl, ⟨rfl, trivial⟩⟩⟩⟩⟩⟩) ?_
    exact w_M_doTwo_539 hG C hr _ _ _ _ _ _ hw
  replace hw := hw.2 q1
  refine z_lcase C (off := 199) (tgt := 419) (37 : Int32) d_M_doTwo_220 (by decide) (by decide) (by decide) (fun q2 => ?_) (fun q2 => ?_)
  · replace hw := hw.1 q2
    refine z_le (lv2 := [some (.ref (E.2.2.1 39)), some (.int l1), some (.int l2), some (.int l3), some (.int l4), none, none, none, none, some (.int s0), some (.long (h.2.1 47 (l4 : Int32).toNatClampNeg)), none, some (.long (h.2.1 48 (l4 : Int32).toNatClampNeg)), none, some (.long (h.2.1 47 (l3 : Int32).toNatClampNeg)), none, some (.long (h.2.1 48 (l3 : Int32).toNatClampNeg)), none, none, none]) (⟨rfl, ⟨rfl, ⟨rfl, ⟨rfl, ⟨rfl, ⟨rfl, ⟨rfl, ⟨rfl, ⟨rfl, ⟨rfl, trivial⟩⟩⟩⟩⟩⟩⟩⟩⟩⟩) ?_
    exact w_M_doTwo_419 hG C hr _ _ _ _ _ _ _ _ _ _ hw
  replace hw := hw.2 q2
  refine z_lcase C (off := 122) (tgt := 342) (42 : Int32) d_M_doTwo_220 (by decide) (by decide) (by decide) (fun q3 => ?_) (fun q3 => ?_)
  · replace hw := hw.1 q3
    refine z_aload_n C (i := 0) d_M_doTwo_342 rfl rfl ?_
    refine z_lload C d_M_doTwo_343 rfl ?_
    refine z_lload C d_M_doTwo_345 rfl ?_
    refine z_lmul C d_M_doTwo_347 ?_
    refine z_lload C d_M_doTwo_348 rfl ?_
    refine z_lload C d_M_doTwo_350 rfl ?_
    refine z_lmul C d_M_doTwo_352 ?_
    refine z_lload C d_M_doTwo_353 rfl ?_
    refine z_lload C d_M_doTwo_355 rfl ?_
    refine z_lmul C d_M_doTwo_357 ?_
    refine z_lload C d_M_doTwo_358 rfl ?_
    refine z_lload C d_M_doTwo_360 rfl ?_
    refine z_lmul C d_M_doTwo_362 ?_
    refine z_callVv ⟨xN_ok, hG.1⟩ zT_good C (t_M_ends hG hw) ol_M_160 (by decide) rfl rfl (by decide) (by decide) pl_M_ends rfl rfl (Nat.le_of_ble_eq_true rfl) d_M_doTwo_363 (fun h45 hw => ?_)
    refine z_goto C (tgt := 539) d_M_doTwo_366 (by decide) ?_
    refine z_le (lv2 := [some (.ref (E.2.2.1 39)), some (.int l1), some (.int l2), some (.int l3), some (.int l4), none, none, none, none, some (.int s0), none, none, none, none, none, none, none, none, none, none]) (⟨rfl, ⟨rfl, ⟨rfl, ⟨rfl, ⟨rfl, ⟨rfl, trivial⟩⟩⟩⟩⟩⟩) ?_
    exact w_M_doTwo_539 hG C hr _ _ _ _ _ _ hw
  replace hw := hw.2 q3
  refine z_lcase C (off := 68) (tgt := 288) (43 : Int32) d_M_doTwo_220 (by decide) (by decide) (by decide) (fun q4 => ?_) (fun q4 => ?_)
  · replace hw := hw.1 q4
    refine z_aload_n C (i := 0) d_M_doTwo_288 rfl rfl ?_
    refine z_lload C d_M_doTwo_289 rfl ?_
    refine z_lload C d_M_doTwo_291 rfl ?_
    refine z_ladd C d_M_doTwo_293 ?_
    refine z_lload C d_M_doTwo_294 rfl ?_
    refine z_lload C d_M_doTwo_296 rfl ?_
    refine z_ladd C d_M_doTwo_298 ?_
    refine z_lload C d_M_doTwo_299 rfl ?_
    refine z_lload C d_M_doTwo_301 rfl ?_
    refine z_ladd C d_M_doTwo_303 ?_
    refine z_lload C d_M_doTwo_304 rfl ?_
    refine z_lload C d_M_doTwo_306 rfl ?_
    refine z_ladd C d_M_doTwo_308 ?_
    refine z_callVv ⟨xN_ok, hG.1⟩ zT_good C (t_M_ends hG hw) ol_M_160 (by decide) rfl rfl (by decide) (by decide) pl_M_ends rfl rfl (Nat.le_of_ble_eq_true rfl) d_M_doTwo_309 (fun h47 hw => ?_)
    refine z_goto C (tgt := 539) d_M_doTwo_312 (by decide) ?_
    refine z_le (lv2 := [some (.ref (E.2.2.1 39)), some (.int l1), some (.int l2), some (.int l3), some (.int l4), none, none, none, none, some (.int s0), none, none, none, none, none, none, none, none, none, none]) (⟨rfl, ⟨rfl, ⟨rfl, ⟨rfl, ⟨rfl, ⟨rfl, trivial⟩⟩⟩⟩⟩⟩) ?_
    exact w_M_doTwo_539 hG C hr _ _ _ _ _ _ hw
  replace hw := hw.2 q4
  refine z_lcase C (off := 95) (tgt := 315) (45 : Int32) d_M_doTwo_220 (by decide) (by decide) (by decide) (fun q5 => ?_) (fun q5 => ?_)
  · replace hw := hw.1 q5
    refine z_aload_n C (i := 0) d_M_doTwo_315 rfl rfl ?_
    refine z_lload C d_M_doTwo_316 rfl ?_
    refine z_lload C d_M_doTwo_318 rfl ?_
    refine z_lsub C d_M_doTwo_320 ?_
    refine z_lload C d_M_doTwo_321 rfl ?_
    refine z_lload C d_M_doTwo_323 rfl ?_
    refine z_lsub C d_M_doTwo_325 ?_
    refine z_lload C d_M_doTwo_326 rfl ?_
    refine z_lload C d_M_doTwo_328 rfl ?_
    refine z_lsub C d_M_doTwo_330 ?_
    refine z_lload C d_M_doTwo_331 rfl ?_
    refine z_lload C d_M_doTwo_333 rfl ?_
    refine z_lsub C d_M_doTwo_335 ?_
    refine z_callVv ⟨xN_ok, hG.1⟩ zT_good C (t_M_ends hG hw) ol_M_160 (by decide) rfl rfl (by decide) (by decide) pl_M_ends rfl rfl (Nat.le_of_ble_eq_true rfl) d_M_doTwo_336 (fun h49 hw => ?_)
    refine z_goto C (tgt := 539) d_M_doTwo_339 (by decide) ?_
    refine z_le (lv2 := [some (.ref (E.2.2.1 39)), some (.int l1), some (.int l2), some (.int l3), some (.int l4), none, none, none, none, some (.int s0), none, none, none, none, none, none, none, none, none, none]) (⟨rfl, ⟨rfl, ⟨rfl, ⟨rfl, ⟨rfl, ⟨rfl, trivial⟩⟩⟩⟩⟩⟩) ?_
    exact w_M_doTwo_539 hG C hr _ _ _ _ _ _ hw
  replace hw := hw.2 q5
  refine z_lcase C (off := 199) (tgt := 419) (47 : Int32) d_M_doTwo_220 (by decide) (by decide) (by decide) (fun q6 => ?_) (fun q6 => ?_)
  · replace hw := hw.1 q6
    refine z_le (lv2 := [some (.ref (E.2.2.1 39)), some (.int l1), some (.int l2), some (.int l3), some (.int l4), none, none, none, none, some (.int s0), some (.long (h.2.1 47 (l4 : Int32).toNatClampNeg)), none, some (.long (h.2.1 48 (l4 : Int32).toNatClampNeg)), none, some (.long (h.2.1 47 (l3 : Int32).toNatClampNeg)), none, some (.long (h.2.1 48 (l3 : Int32).toNatClampNeg)), none, none, none]) (⟨rfl, ⟨rfl, ⟨rfl, ⟨rfl, ⟨rfl, ⟨rfl, ⟨rfl, ⟨rfl, ⟨rfl, ⟨rfl, trivial⟩⟩⟩⟩⟩⟩⟩⟩⟩⟩) ?_
    exact w_M_doTwo_419 hG C hr _ _ _ _ _ _ _ _ _ _ hw
  replace hw := hw.2 q6
  refine z_lookup C (off := 319) (tgt := 539) d_M_doTwo_220 (by decide) (by show Op.lookupswitch.offset [(4, 149), (5, 174), (37, 199), (42, 122), (43, 68), (45, 95), (47, 199)] (319) _ = (319); rw [lv_osw q0 (a := 4) rfl, lv_osw q1 (a := 5) rfl, lv_osw q2 (a := 37) rfl, lv_osw q3 (a := 42) rfl, lv_osw q4 (a := 43) rfl, lv_osw q5 (a := 45) rfl, lv_osw q6 (a := 47) rfl]; rfl) (by decide) ?_
  refine z_le (lv2 := [some (.ref (E.2.2.1 39)), some (.int l1), some (.int l2), some (.int l3), some (.int l4), none, none, none, none, some (.int s0), none, none, none, none, none, none, none, none, none, none]) (⟨rfl, ⟨rfl, ⟨rfl, ⟨rfl, ⟨rfl, ⟨rfl, trivial⟩⟩⟩⟩⟩⟩) ?_
  exact w_M_doTwo_539 hG C hr _ _ _ _ _ _ hw
set_option maxRecDepth 100000 in
set_option maxHeartbeats 4000000 in
theorem w_M_doTwo_168 {l : Launch} {E : zE} {G : (Nat → Prop) → State → Prop} {p : Program} {e : Env} {s : State} {m : MethodId} {args : Array Value} {below : List Frame} {meth : Method} {c : Code} {A : Nat → Prop} {post : zH → Prop} (hG : xGG E G) (C : zCx p s m args meth c E G A 2 51 prog_10_method_23_code 20 cn_M) (hr : meth.sig.returnType = none)  (l1 : Int32) (l2 : Int32) (l3 : Int32) (l4 : Int32) (h : zH) (hw : b_M_doTwo_168 post l1 l2 l3 l4 h) : zGo p l e s m args below meth c E A 2 51 20 (zPv post) h 168 [some (.ref (E.2.2.1 39)), some (.int l1), some (.int l2), some (.int l3), some (.int l4), none, none, none, none, none, none, none, none, none, none, none, none, none, none, none] [] := by
  unfold b_M_doTwo_168 at hw
  refine z_iconst C (v := 0) d_M_doTwo_168 (by decide) ?_
  refine z_goto C (tgt := 173) d_M_doTwo_169 (by decide) ?_
  refine z_le (lv2 := [some (.ref (E.2.2.1 39)), some (.int l1), some (.int l2), some (.int l3), some (.int l4), none, none, none, none, none, none, none, none, none, none, none, none, none, none, none]) (⟨rfl, ⟨rfl, ⟨rfl, ⟨rfl, ⟨rfl, trivial⟩⟩⟩⟩⟩) ?_
  exact w_M_doTwo_173 hG C hr _ _ _ _ _ _ hw
set_option maxRecDepth 100000 in
set_option maxHeartbeats 4000000 in
theorem w_M_doTwo_150 {l : Launch} {E : zE} {G : (Nat → Prop) → State → Prop} {p : Program} {e : Env} {s : State} {m : MethodId} {args : Array Value} {below : List Frame} {meth : Method} {c : Code} {A : Nat → Prop} {post : zH → Prop} (hG : xGG E G) (C : zCx p s m args meth c E G A 2 51 prog_10_method_23_code 20 cn_M) (hr : meth.sig.returnType = none)  (l1 : Int32) (l2 : Int32) (l3 : Int32) (l4 : Int32) (h : zH) (hw : b_M_doTwo_150 post l1 l2 l3 l4 h) : zGo p l e s m args below meth c E A 2 51 20 (zPv post) h 150 [some (.ref (E.2.2.1 39)), some (.int l1), some (.int l2), some (.int l3), some (.int l4), none, none, none, none, none, none, none, none, none, none, none, none, none, none, none] [] := by
  unfold b_M_doTwo_150 at hw
  refine z_iload_n C (i := 1) d_M_doTwo_150 rfl rfl ?_
  refine z_callSi ⟨xN_ok, hG.1⟩ zT_good C (t_M_rank hG hw) ol_M_157 (by decide) (by decide) pl_M_rank rfl rfl (Nat.le_of_ble_eq_true rfl) d_M_doTwo_151 (fun r50 h51 hw => ?_)
  refine z_iconst C (v := 4) d_M_doTwo_154 (by decide) ?_
  refine z_icmp_gt C (tgt := 168) d_M_doTwo_155 (by decide) (fun q => ?_) (fun q => ?_)
  · replace hw := hw.1 q
    refine z_le (lv2 := [some (.ref (E.2.2.1 39)), some (.int l1), some (.int l2), some (.int l3), some (.int l4), none, none, none, none, none, none, none, none, none, none, none, none, none, none, none]) (⟨rfl, ⟨rfl, ⟨rfl, ⟨rfl, ⟨rfl, trivial⟩⟩⟩⟩⟩) ?_
    exact w_M_doTwo_168 hG C hr _ _ _ _ _ hw
  · replace hw := hw.2 q
    refine z_iload_n C (i := 1) d_M_doTwo_158 rfl rfl ?_
    refine z_iconst C (v := 4) d_M_doTwo_159 (by decide) ?_
    refine z_icmp_eq C (tgt := 168) d_M_doTwo_160 (by decide) (fun q => ?_) (fun q => ?_)
    · replace hw := hw.1 q
      refine z_le (lv2 := [some (.ref (E.2.2.1 39)), some (.int l1), some (.int l2), some (.int l3), some (.int l4), none, none, none, none, none, none, none, none, none, none, none, none, none, none, none]) (⟨rfl, ⟨rfl, ⟨rfl, ⟨rfl, ⟨rfl, trivial⟩⟩⟩⟩⟩) ?_
      exact w_M_doTwo_168 hG C hr _ _ _ _ _ hw
    · replace hw := hw.2 q
      refine z_iload_n C (i := 1) d_M_doTwo_163 rfl rfl ?_
      refine z_iconst C (v := 5) d_M_doTwo_164 (by decide) ?_
      refine z_icmp_ne C (tgt := 172) d_M_doTwo_165 (by decide) (fun q => ?_) (fun q => ?_)
      · replace hw := hw.1 q
        refine z_iconst C (v := 1) d_M_doTwo_172 (by decide) ?_
        refine z_le (lv2 := [some (.ref (E.2.2.1 39)), some (.int l1), some (.int l2), some (.int l3), some (.int l4), none, none, none, none, none, none, none, none, none, none, none, none, none, none, none]) (⟨rfl, ⟨rfl, ⟨rfl, ⟨rfl, ⟨rfl, trivial⟩⟩⟩⟩⟩) ?_
        exact w_M_doTwo_173 hG C hr _ _ _ _ _ _ hw
      · replace hw := hw.2 q
        refine z_le (lv2 := [some (.ref (E.2.2.1 39)), some (.int l1), some (.int l2), some (.int l3), some (.int l4), none, none, none, none, none, none, none, none, none, none, none, none, none, none, none]) (⟨rfl, ⟨rfl, ⟨rfl, ⟨rfl, ⟨rfl, trivial⟩⟩⟩⟩⟩) ?_
        exact w_M_doTwo_168 hG C hr _ _ _ _ _ hw
set_option maxRecDepth 100000 in
set_option maxHeartbeats 4000000 in
theorem w_M_doTwo_105 {l : Launch} {E : zE} {G : (Nat → Prop) → State → Prop} {p : Program} {e : Env} {s : State} {m : MethodId} {args : Array Value} {below : List Frame} {meth : Method} {c : Code} {A : Nat → Prop} {post : zH → Prop} (hG : xGG E G) (C : zCx p s m args meth c E G A 2 51 prog_10_method_23_code 20 cn_M) (hr : meth.sig.returnType = none)  (l1 : Int32) (l2 : Int32) (l3 : Int32) (l4 : Int32) (l5 : Int32) (l6 : Int32) (l7 : Int32) (s0 : Int32) (h : zH) (hw : b_M_doTwo_105 post l1 l2 l3 l4 l5 l6 l7 s0 h) : zGo p l e s m args below meth c E A 2 51 20 (zPv post) h 105 [some (.ref (E.2.2.1 39)), some (.int l1), some (.int l2), some (.int l3), some (.int l4), some (.int l5), some (.int l6), some (.int l7), none, none, none, none, none, none, none, none, none, none, none, none] [.int s0] := by
  unfold b_M_doTwo_105 at hw
  refine z_istore C d_M_doTwo_105 (by decide) rfl ?_
  refine z_iload C d_M_doTwo_107 rfl ?_
  refine z_if_eq C (tgt := 125) d_M_doTwo_109 (by decide) (fun q => ?_) (fun q => ?_)
  · replace hw := hw.1 q
    refine z_iload C d_M_doTwo_125 rfl ?_
    refine z_if_eq C (tgt := 138) d_M_doTwo_127 (by decide) (fun q => ?_) (fun q => ?_)
    · replace hw := hw.1 q
      refine z_iload C d_M_doTwo_138 rfl ?_
      refine z_if_ne C (tgt := 150) d_M_doTwo_140 (by decide) (fun q => ?_) (fun q => ?_)
      · replace hw := hw.1 q
        refine z_le (lv2 := [some (.ref (E.2.2.1 39)), some (.int l1), some (.int l2), some (.int l3), some (.int l4), none, none, none, none, none, none, none, none, none, none, none, none, none, none, none]) (⟨rfl, ⟨rfl, ⟨rfl, ⟨rfl, ⟨rfl, trivial⟩⟩⟩⟩⟩) ?_
        exact w_M_doTwo_150 hG C hr _ _ _ _ _ hw
      · replace hw := hw.2 q
        refine z_le (lv2 := [some (.ref (E.2.2.1 39)), none, some (.int l2), none, none, none, none, none, none, none, none, none, none, none, none, none, none, none, none, none]) (⟨rfl, ⟨rfl, trivial⟩⟩) ?_
        exact w_M_doTwo_143 hG C hr _ _ hw
    · replace hw := hw.2 q
      refine z_iload C d_M_doTwo_130 rfl ?_
      refine z_if_ne C (tgt := 150) d_M_doTwo_132 (by decide) (fun q => ?_) (fun q => ?_)
      · replace hw := hw.1 q
        refine z_le (lv2 := [some (.ref (E.2.2.1 39)), some (.int l1), some (.int l2), some (.int l3), some (.int l4), none, none, none, none, none, none, none, none, none, none, none, none, none, none, none]) (⟨rfl, ⟨rfl, ⟨rfl, ⟨rfl, ⟨rfl, trivial⟩⟩⟩⟩⟩) ?_
        exact w_M_doTwo_150 hG C hr _ _ _ _ _ hw
      · replace hw := hw.2 q
        refine z_goto C (tgt := 143) d_M_doTwo_135 (by decide) ?_
        refine z_le (lv2 := [some (.ref (E.2.2.1 39)), none, some (.int l2), none, none, none, none, none, none, none, none, none, none, none, none, none, none, none, none, none]) (⟨rfl, ⟨rfl, trivial⟩⟩) ?_
        exact w_M_doTwo_143 hG C hr _ _ hw
  · replace hw := hw.2 q
    refine z_iload C d_M_doTwo_112 rfl ?_
    refine z_if_ne C (tgt := 150) d_M_doTwo_114 (by decide) (fun q => ?_) (fun q => ?_)
    · replace hw := hw.1 q
      refine z_le (lv2 := [some (.ref (E.2.2.1 39)), some (.int l1), some (.int l2), some (.int l3), some (.int l4), none, none, none, none, none, none, none, none, none, none, none, none, none, none, none]) (⟨rfl, ⟨rfl, ⟨rfl, ⟨rfl, ⟨rfl, trivial⟩⟩⟩⟩⟩) ?_
      exact w_M_doTwo_150 hG C hr _ _ _ _ _ hw
    · replace hw := hw.2 q
      refine z_iload C d_M_doTwo_117 rfl ?_
      refine z_if_ne C (tgt := 150) d_M_doTwo_119 (by decide) (fun q => ?_) (fun q => ?_)
      · replace hw := hw.1 q
        refine z_le (lv2 := [some (.ref (E.2.2.1 39)), some (.int l1), some (.int l2), some (.int l3), some (.int l4), none, none, none, none, none, none, none, none, none, none, none, none, none, none, none]) (⟨rfl, ⟨rfl, ⟨rfl, ⟨rfl, ⟨rfl, trivial⟩⟩⟩⟩⟩) ?_
        exact w_M_doTwo_150 hG C hr _ _ _ _ _ hw
      · replace hw := hw.2 q
        refine z_goto C (tgt := 143) d_M_doTwo_122 (by decide) ?_
        refine z_le (lv2 := [some (.ref (E.2.2.1 39)), none, some (.int l2), none, none, none, none, none, none, none, none, none, none, none, none, none, none, none, none, none]) (⟨rfl, ⟨rfl, trivial⟩⟩) ?_
        exact w_M_doTwo_143 hG C hr _ _ hw
set_option maxRecDepth 100000 in
set_option maxHeartbeats 4000000 in
theorem w_M_doTwo_100 {l : Launch} {E : zE} {G : (Nat → Prop) → State → Prop} {p : Program} {e : Env} {s : State} {m : MethodId} {args : Array Value} {below : List Frame} {meth : Method} {c : Code} {A : Nat → Prop} {post : zH → Prop} (hG : xGG E G) (C : zCx p s m args meth c E G A 2 51 prog_10_method_23_code 20 cn_M) (hr : meth.sig.returnType = none)  (l1 : Int32) (l2 : Int32) (l3 : Int32) (l4 : Int32) (l5 : Int32) (l6 : Int32) (l7 : Int32) (h : zH) (hw : b_M_doTwo_100 post l1 l2 l3 l4 l5 l6 l7 h) : zGo p l e s m args below meth c E A 2 51 20 (zPv post) h 100 [some (.ref (E.2.2.1 39)), some (.int l1), some (.int l2), some (.int l3), some (.int l4), some (.int l5), some (.int l6), some (.int l7), none, none, none, none, none, none, none, none, none, none, none, none] [] := by
  unfold b_M_doTwo_100 at hw
  refine z_iconst C (v := 1) d_M_doTwo_100 (by decide) ?_
  refine z_goto C (tgt := 105) d_M_doTwo_101 (by decide) ?_
  refine z_le (lv2 := [some (.ref (E.2.2.1 39)), some (.int l1), some (.int l2), some (.int l3), some (.int l4), some (.int l5), some (.int l6), some (.int l7), none, none, none, none, none, none, none, none, none, none, none, none]) (⟨rfl, ⟨rfl, ⟨rfl, ⟨rfl, ⟨rfl, ⟨rfl, ⟨rfl, ⟨rfl, trivial⟩⟩⟩⟩⟩⟩⟩⟩) ?_
  exact w_M_doTwo_105 hG C hr _ _ _ _ _ _ _ _ _ hw
set_option maxRecDepth 100000 in
set_option maxHeartbeats 4000000 in
theorem w_M_doTwo_84 {l : Launch} {E : zE} {G : (Nat → Prop) → State → Prop} {p : Program} {e : Env} {s : State} {m : MethodId} {args : Array Value} {below : List Frame} {meth : Method} {c : Code} {A : Nat → Prop} {post : zH → Prop} (hG : xGG E G) (C : zCx p s m args meth c E G A 2 51 prog_10_method_23_code 20 cn_M) (hr : meth.sig.returnType = none)  (l1 : Int32) (l2 : Int32) (l3 : Int32) (l4 : Int32) (l5 : Int32) (l6 : Int32) (s0 : Int32) (h : zH) (hw : b_M_doTwo_84 post l1 l2 l3 l4 l5 l6 s0 h) : zGo p l e s m args below meth c E A 2 51 20 (zPv post) h 84 [some (.ref (E.2.2.1 39)), some (.int l1), some (.int l2), some (.int l3), some (.int l4), some (.int l5), some (.int l6), none, none, none, none, none, none, none, none, none, none, none, none, none] [.int s0] := by
  unfold b_M_doTwo_84 at hw
  refine z_istore C d_M_doTwo_84 (by decide) rfl ?_
  refine z_iload_n C (i := 1) d_M_doTwo_86 rfl rfl ?_
  refine z_sipush C (v := 202) d_M_doTwo_87 (by decide) ?_
  refine z_icmp_eq C (tgt := 100) d_M_doTwo_90 (by decide) (fun q => ?_) (fun q => ?_)
  · replace hw := hw.1 q
    refine z_le (lv2 := [some (.ref (E.2.2.1 39)), some (.int l1), some (.int l2), some (.int l3), some (.int l4), some (.int l5), some (.int l6), some (.int s0), none, none, none, none, none, none, none, none, none, none, none, none]) (⟨rfl, ⟨rfl, ⟨rfl, ⟨rfl, ⟨rfl, ⟨rfl, ⟨rfl, ⟨rfl, trivial⟩⟩⟩⟩⟩⟩⟩⟩) ?_
    exact w_M_doTwo_100 hG C hr _ _ _ _ _ _ _ _ hw
  · replace hw := hw.2 q
    refine z_iload_n C (i := 1) d_M_doTwo_93 rfl rfl ?_
    refine z_sipush C (v := 203) d_M_doTwo_94 (by decide) ?_
    refine z_icmp_ne C (tgt := 104) d_M_doTwo_97 (by decide) (fun q => ?_) (fun q => ?_)
    · replace hw := hw.1 q
      refine z_iconst C (v := 0) d_M_doTwo_104 (by decide) ?_
      refine z_le (lv2 := [some (.ref (E.2.2.1 39)), some (.int l1), some (.int l2), some (.int l3), some (.int l4), some (.int l5), some (.int l6), some (.int s0), none, none, none, none, none, none, none, none, none, none, none, none]) (⟨rfl, ⟨rfl, ⟨rfl, ⟨rfl, ⟨rfl, ⟨rfl, ⟨rfl, ⟨rfl, trivial⟩⟩⟩⟩⟩⟩⟩⟩) ?_
      exact w_M_doTwo_105 hG C hr _ _ _ _ _ _ _ _ _ hw
    · replace hw := hw.2 q
      refine z_le (lv2 := [some (.ref (E.2.2.1 39)), some (.int l1), some (.int l2), some (.int l3), some (.int l4), some (.int l5), some (.int l6), some (.int s0), none, none, none, none, none, none, none, none, none, none, none, none]) (⟨rfl, ⟨rfl, ⟨rfl, ⟨rfl, ⟨rfl, ⟨rfl, ⟨rfl, ⟨rfl, trivial⟩⟩⟩⟩⟩⟩⟩⟩) ?_
      exact w_M_doTwo_100 hG C hr _ _ _ _ _ _ _ _ hw
set_option maxRecDepth 100000 in
set_option maxHeartbeats 4000000 in
theorem w_M_doTwo_79 {l : Launch} {E : zE} {G : (Nat → Prop) → State → Prop} {p : Program} {e : Env} {s : State} {m : MethodId} {args : Array Value} {below : List Frame} {meth : Method} {c : Code} {A : Nat → Prop} {post : zH → Prop} (hG : xGG E G) (C : zCx p s m args meth c E G A 2 51 prog_10_method_23_code 20 cn_M) (hr : meth.sig.returnType = none)  (l1 : Int32) (l2 : Int32) (l3 : Int32) (l4 : Int32) (l5 : Int32) (l6 : Int32) (h : zH) (hw : b_M_doTwo_79 post l1 l2 l3 l4 l5 l6 h) : zGo p l e s m args below meth c E A 2 51 20 (zPv post) h 79 [some (.ref (E.2.2.1 39)), some (.int l1), some (.int l2), some (.int l3), some (.int l4), some (.int l5), some (.int l6), none, none, none, none, none, none, none, none, none, none, none, none, none] [] := by
  unfold b_M_doTwo_79 at hw
  refine z_iconst C (v := 1) d_M_doTwo_79 (by decide) ?_
  refine z_goto C (tgt := 84) d_M_doTwo_80 (by decide) ?_
  refine z_le (lv2 := [some (.ref (E.2.2.1 39)), some (.int l1), some (.int l2), some (.int l3), some (.int l4), some (.int l5), some (.int l6), none, none, none, none, none, none, none, none, none, none, none, none, none]) (⟨rfl, ⟨rfl, ⟨rfl, ⟨rfl, ⟨rfl, ⟨rfl, ⟨rfl, trivial⟩⟩⟩⟩⟩⟩⟩) ?_
  exact w_M_doTwo_84 hG C hr _ _ _ _ _ _ _ _ hw
set_option maxRecDepth 100000 in
set_option maxHeartbeats 4000000 in
theorem w_M_doTwo_63 {l : Launch} {E : zE} {G : (Nat → Prop) → State → Prop} {p : Program} {e : Env} {s : State} {m : MethodId} {args : Array Value} {below : List Frame} {meth : Method} {c : Code} {A : Nat → Prop} {post : zH → Prop} (hG : xGG E G) (C : zCx p s m args meth c E G A 2 51 prog_10_method_23_code 20 cn_M) (hr : meth.sig.returnType = none)  (l1 : Int32) (l2 : Int32) (l3 : Int32) (l4 : Int32) (l5 : Int32) (s0 : Int32) (h : zH) (hw : b_M_doTwo_63 post l1 l2 l3 l4 l5 s0 h) : zGo p l e s m args below meth c E A 2 51 20 (zPv post) h 63 [some (.ref (E.2.2.1 39)), some (.int l1), some (.int l2), some (.int l3), some (.int l4), some (.int l5), none, none, none, none, none, none, none, none, none, none, none, none, none, none] [.int s0] := by
  unfold b_M_doTwo_63 at hw
  refine z_istore C d_M_doTwo_63 (by decide) rfl ?_
  refine z_iload_n C (i := 1) d_M_doTwo_65 rfl rfl ?_
  refine z_sipush C (v := 204) d_M_doTwo_66 (by decide) ?_
  refine z_icmp_eq C (tgt := 79) d_M_doTwo_69 (by decide) (fun q => ?_) (fun q => ?_)
  · replace hw := hw.1 q
    refine z_le (lv2 := [some (.ref (E.2.2.1 39)), some (.int l1), some (.int l2), some (.int l3), some (.int l4), some (.int l5), some (.int s0), none, none, none, none, none, none, none, none, none, none, none, none, none]) (⟨rfl, ⟨rfl, ⟨rfl, ⟨rfl, ⟨rfl, ⟨rfl, ⟨rfl, trivial⟩⟩⟩⟩⟩⟩⟩) ?_
    exact w_M_doTwo_79 hG C hr _ _ _ _ _ _ _ hw
  · replace hw := hw.2 q
    refine z_iload_n C (i := 1) d_M_doTwo_72 rfl rfl ?_
    refine z_sipush C (v := 205) d_M_doTwo_73 (by decide) ?_
    refine z_icmp_ne C (tgt := 83) d_M_doTwo_76 (by decide) (fun q => ?_) (fun q => ?_)
    · replace hw := hw.1 q
      refine z_iconst C (v := 0) d_M_doTwo_83 (by decide) ?_
      refine z_le (lv2 := [some (.ref (E.2.2.1 39)), some (.int l1), some (.int l2), some (.int l3), some (.int l4), some (.int l5), some (.int s0), none, none, none, none, none, none, none, none, none, none, none, none, none]) (⟨rfl, ⟨rfl, ⟨rfl, ⟨rfl, ⟨rfl, ⟨rfl, ⟨rfl, trivial⟩⟩⟩⟩⟩⟩⟩) ?_
      exact w_M_doTwo_84 hG C hr _ _ _ _ _ _ _ _ hw
    · replace hw := hw.2 q
      refine z_le (lv2 := [some (.ref (E.2.2.1 39)), some (.int l1), some (.int l2), some (.int l3), some (.int l4), some (.int l5), some (.int s0), none, none, none, none, none, none, none, none, none, none, none, none, none]) (⟨rfl, ⟨rfl, ⟨rfl, ⟨rfl, ⟨rfl, ⟨rfl, ⟨rfl, trivial⟩⟩⟩⟩⟩⟩⟩) ?_
      exact w_M_doTwo_79 hG C hr _ _ _ _ _ _ _ hw
set_option maxRecDepth 100000 in
set_option maxHeartbeats 4000000 in
theorem w_M_doTwo_62 {l : Launch} {E : zE} {G : (Nat → Prop) → State → Prop} {p : Program} {e : Env} {s : State} {m : MethodId} {args : Array Value} {below : List Frame} {meth : Method} {c : Code} {A : Nat → Prop} {post : zH → Prop} (hG : xGG E G) (C : zCx p s m args meth c E G A 2 51 prog_10_method_23_code 20 cn_M) (hr : meth.sig.returnType = none)  (l1 : Int32) (l2 : Int32) (l3 : Int32) (l4 : Int32) (l5 : Int32) (h : zH) (hw : b_M_doTwo_62 post l1 l2 l3 l4 l5 h) : zGo p l e s m args below meth c E A 2 51 20 (zPv post) h 62 [some (.ref (E.2.2.1 39)), some (.int l1), some (.int l2), some (.int l3), some (.int l4), some (.int l5), none, none, none, none, none, none, none, none, none, none, none, none, none, none] [] := by
  unfold b_M_doTwo_62 at hw
  refine z_iconst C (v := 0) d_M_doTwo_62 (by decide) ?_
  refine z_le (lv2 := [some (.ref (E.2.2.1 39)), some (.int l1), some (.int l2), some (.int l3), some (.int l4), some (.int l5), none, none, none, none, none, none, none, none, none, none, none, none, none, none]) (⟨rfl, ⟨rfl, ⟨rfl, ⟨rfl, ⟨rfl, ⟨rfl, trivial⟩⟩⟩⟩⟩⟩) ?_
  exact w_M_doTwo_63 hG C hr _ _ _ _ _ _ _ hw
set_option maxRecDepth 100000 in
set_option maxHeartbeats 4000000 in
theorem w_M_doTwo_35 {l : Launch} {E : zE} {G : (Nat → Prop) → State → Prop} {p : Program} {e : Env} {s : State} {m : MethodId} {args : Array Value} {below : List Frame} {meth : Method} {c : Code} {A : Nat → Prop} {post : zH → Prop} (hG : xGG E G) (C : zCx p s m args meth c E G A 2 51 prog_10_method_23_code 20 cn_M) (hr : meth.sig.returnType = none)  (l1 : Int32) (l2 : Int32) (l3 : Int32) (l4 : Int32) (s0 : Int32) (h : zH) (hw : b_M_doTwo_35 post l1 l2 l3 l4 s0 h) : zGo p l e s m args below meth c E A 2 51 20 (zPv post) h 35 [some (.ref (E.2.2.1 39)), some (.int l1), some (.int l2), some (.int l3), some (.int l4), none, none, none, none, none, none, none, none, none, none, none, none, none, none, none] [.int s0] := by
  unfold b_M_doTwo_35 at hw
  refine z_istore C d_M_doTwo_35 (by decide) rfl ?_
  refine z_aload_n C (i := 0) d_M_doTwo_37 rfl rfl ?_
  refine z_getS C (ci := 8) (j := 14) (F := cf_M) (by decide) rfl rfl in_M (by decide) fl_M_28 rfl d_M_doTwo_38 ?_
  refine z_iload C d_M_doTwo_41 rfl ?_
  refine z_iald C (by decide) rfl hw.1 d_M_doTwo_43 ?_
  replace hw := hw.2
  refine z_iconst C (v := 1) d_M_doTwo_44 (by decide) ?_
  refine z_icmp_ne C (tgt := 62) d_M_doTwo_45 (by decide) (fun q => ?_) (fun q => ?_)
  · replace hw := hw.1 q
    refine z_le (lv2 := [some (.ref (E.2.2.1 39)), some (.int l1), some (.int l2), some (.int l3), some (.int l4), some (.int s0), none, none, none, none, none, none, none, none, none, none, none, none, none, none]) (⟨rfl, ⟨rfl, ⟨rfl, ⟨rfl, ⟨rfl, ⟨rfl, trivial⟩⟩⟩⟩⟩⟩) ?_
    exact w_M_doTwo_62 hG C hr _ _ _ _ _ _ hw
  · replace hw := hw.2 q
    refine z_aload_n C (i := 0) d_M_doTwo_48 rfl rfl ?_
    refine z_getS C (ci := 8) (j := 14) (F := cf_M) (by decide) rfl rfl in_M (by decide) fl_M_28 rfl d_M_doTwo_49 ?_
    refine z_iload_n C (i := 3) d_M_doTwo_52 rfl rfl ?_
    refine z_iald C (by decide) rfl hw.1 d_M_doTwo_53 ?_
    replace hw := hw.2
    refine z_iconst C (v := 1) d_M_doTwo_54 (by decide) ?_
    refine z_icmp_ne C (tgt := 62) d_M_doTwo_55 (by decide) (fun q => ?_) (fun q => ?_)
    · replace hw := hw.1 q
      refine z_le (lv2 := [some (.ref (E.2.2.1 39)), some (.int l1), some (.int l2), some (.int l3), some (.int l4), some (.int s0), none, none, none, none, none, none, none, none, none, none, none, none, none, none]) (⟨rfl, ⟨rfl, ⟨rfl, ⟨rfl, ⟨rfl, ⟨rfl, trivial⟩⟩⟩⟩⟩⟩) ?_
      exact w_M_doTwo_62 hG C hr _ _ _ _ _ _ hw
    · replace hw := hw.2 q
      refine z_iconst C (v := 1) d_M_doTwo_58 (by decide) ?_
      refine z_goto C (tgt := 63) d_M_doTwo_59 (by decide) ?_
      refine z_le (lv2 := [some (.ref (E.2.2.1 39)), some (.int l1), some (.int l2), some (.int l3), some (.int l4), some (.int s0), none, none, none, none, none, none, none, none, none, none, none, none, none, none]) (⟨rfl, ⟨rfl, ⟨rfl, ⟨rfl, ⟨rfl, ⟨rfl, trivial⟩⟩⟩⟩⟩⟩) ?_
      exact w_M_doTwo_63 hG C hr _ _ _ _ _ _ _ hw
set_option maxRecDepth 100000 in
set_option maxHeartbeats 4000000 in
theorem w_M_doTwo_34 {l : Launch} {E : zE} {G : (Nat → Prop) → State → Prop} {p : Program} {e : Env} {s : State} {m : MethodId} {args : Array Value} {below : List Frame} {meth : Method} {c : Code} {A : Nat → Prop} {post : zH → Prop} (hG : xGG E G) (C : zCx p s m args meth c E G A 2 51 prog_10_method_23_code 20 cn_M) (hr : meth.sig.returnType = none)  (l1 : Int32) (l2 : Int32) (l3 : Int32) (l4 : Int32) (h : zH) (hw : b_M_doTwo_34 post l1 l2 l3 l4 h) : zGo p l e s m args below meth c E A 2 51 20 (zPv post) h 34 [some (.ref (E.2.2.1 39)), some (.int l1), some (.int l2), some (.int l3), some (.int l4), none, none, none, none, none, none, none, none, none, none, none, none, none, none, none] [] := by
  unfold b_M_doTwo_34 at hw
  refine z_iconst C (v := 0) d_M_doTwo_34 (by decide) ?_
  refine z_le (lv2 := [some (.ref (E.2.2.1 39)), some (.int l1), some (.int l2), some (.int l3), some (.int l4), none, none, none, none, none, none, none, none, none, none, none, none, none, none, none]) (⟨rfl, ⟨rfl, ⟨rfl, ⟨rfl, ⟨rfl, trivial⟩⟩⟩⟩⟩) ?_
  exact w_M_doTwo_35 hG C hr _ _ _ _ _ _ hw
set_option maxRecDepth 100000 in
set_option maxHeartbeats 4000000 in
theorem t_M_doTwo {l : Launch} {E : zE} {G : (Nat → Prop) → State → Prop} (hG : xGG E G) {l1 : Int32} {l2 : Int32} {h : zH} {post : zH → Prop} (hw : wp_M_doTwo l1 l2 h post) : Ct l xX E xcl xN zT G 2 51 y_M_doTwo prog_10_method_23_code 20 none [.ref (E.2.2.1 39), .int l1, .int l2] h (zPv post) := by
  unfold wp_M_doTwo at hw
  refine Ct.of (by decide) (Nat.le_of_ble_eq_true rfl) ?_
  intro p e s m below meth c A C hr
  refine z_lv (lv2 := [some (.ref (E.2.2.1 39)), some (.int l1), some (.int l2), none, none, none, none, none, none, none, none, none, none, none, none, none, none, none, none, none]) rfl ?_
  refine z_aload_n C (i := 0) d_M_doTwo_0 rfl rfl ?_
  refine z_callVi ⟨xN_ok, hG.1⟩ zT_good C (t_M_pop hG hw) ol_M_153 (by decide) rfl rfl (by decide) (by decide) pl_M_pop rfl rfl (Nat.le_of_ble_eq_true rfl) d_M_doTwo_1 (fun r52 h53 hw => ?_)
  refine z_istore_n C (i := 3) d_M_doTwo_4 rfl (by decide) rfl ?_
  refine z_aload_n C (i := 0) d_M_doTwo_5 rfl rfl ?_
  refine z_callVi ⟨xN_ok, hG.1⟩ zT_good C (t_M_pop hG hw) ol_M_153 (by decide) rfl rfl (by decide) (by decide) pl_M_pop rfl rfl (Nat.le_of_ble_eq_true rfl) d_M_doTwo_6 (fun r54 h55 hw => ?_)
  refine z_istore C d_M_doTwo_9 (by decide) rfl ?_
  refine z_aload_n C (i := 0) d_M_doTwo_11 rfl rfl ?_
  refine z_getS C (ci := 8) (j := 14) (F := cf_M) (by decide) rfl rfl in_M (by decide) fl_M_28 rfl d_M_doTwo_12 ?_
  refine z_iload C d_M_doTwo_15 rfl ?_
  refine z_iald C (by decide) rfl hw.1 d_M_doTwo_17 ?_
  replace hw := hw.2
  refine z_if_ne C (tgt := 34) d_M_doTwo_18 (by decide) (fun q => ?_) (fun q => ?_)
  · replace hw := hw.1 q
    refine z_le (lv2 := [some (.ref (E.2.2.1 39)), some (.int l1), some (.int l2), some (.int r52), some (.int r54), none, none, none, none, none, none, none, none, none, none, none, none, none, none, none]) (⟨rfl, ⟨rfl, ⟨rfl, ⟨rfl, ⟨rfl, trivial⟩⟩⟩⟩⟩) ?_
    exact w_M_doTwo_34 hG C hr _ _ _ _ _ hw
  · replace hw := hw.2 q
    refine z_aload_n C (i := 0) d_M_doTwo_21 rfl rfl ?_
    refine z_getS C (ci := 8) (j := 14) (F := cf_M) (by decide) rfl rfl in_M (by decide) fl_M_28 rfl d_M_doTwo_22 ?_
    refine z_iload_n C (i := 3) d_M_doTwo_25 rfl rfl ?_
    refine z_iald C (by decide) rfl hw.1 d_M_doTwo_26 ?_
    replace hw := hw.2
    refine z_if_ne C (tgt := 34) d_M_doTwo_27 (by decide) (fun q => ?_) (fun q => ?_)
    · replace hw := hw.1 q
      refine z_le (lv2 := [some (.ref (E.2.2.1 39)), some (.int l1), some (.int l2), some (.int r52), some (.int r54), none, none, none, none, none, none, none, none, none, none, none, none, none, none, none]) (⟨rfl, ⟨rfl, ⟨rfl, ⟨rfl, ⟨rfl, trivial⟩⟩⟩⟩⟩) ?_
      exact w_M_doTwo_34 hG C hr _ _ _ _ _ hw
    · replace hw := hw.2 q
      refine z_iconst C (v := 1) d_M_doTwo_30 (by decide) ?_
      refine z_goto C (tgt := 35) d_M_doTwo_31 (by decide) ?_
      refine z_le (lv2 := [some (.ref (E.2.2.1 39)), some (.int l1), some (.int l2), some (.int r52), some (.int r54), none, none, none, none, none, none, none, none, none, none, none, none, none, none, none]) (⟨rfl, ⟨rfl, ⟨rfl, ⟨rfl, ⟨rfl, trivial⟩⟩⟩⟩⟩) ?_
      exact w_M_doTwo_35 hG C hr _ _ _ _ _ _ hw
