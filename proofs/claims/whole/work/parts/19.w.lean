theorem d_T_isTrue_0 : decode prog_6_method_17_code 0 = .ok (.iload_n 0, 1) := by decide +kernel
theorem d_T_isTrue_1 : decode prog_6_method_17_code 1 = .ok (.tableswitch (171) (14) (22) #[51, 63, 75, 87, 99, 111, 123, 135, 153], 51) := by decide +kernel
theorem d_T_isTrue_52 : decode prog_6_method_17_code 52 = .ok (.lload_n 1, 1) := by decide +kernel
theorem d_T_isTrue_53 : decode prog_6_method_17_code 53 = .ok (.lload_n 3, 1) := by decide +kernel
theorem d_T_isTrue_54 : decode prog_6_method_17_code 54 = .ok (.lcmp, 1) := by decide +kernel
theorem d_T_isTrue_55 : decode prog_6_method_17_code 55 = .ok (.ifCond .ge (7), 3) := by decide +kernel
theorem d_T_isTrue_58 : decode prog_6_method_17_code 58 = .ok (.iconst 1, 1) := by decide +kernel
theorem d_T_isTrue_59 : decode prog_6_method_17_code 59 = .ok (.goto (4), 3) := by decide +kernel
theorem d_T_isTrue_62 : decode prog_6_method_17_code 62 = .ok (.iconst 0, 1) := by decide +kernel
theorem d_T_isTrue_63 : decode prog_6_method_17_code 63 = .ok (.ireturn, 1) := by decide +kernel
theorem d_T_isTrue_64 : decode prog_6_method_17_code 64 = .ok (.lload_n 1, 1) := by decide +kernel
theorem d_T_isTrue_65 : decode prog_6_method_17_code 65 = .ok (.lload_n 3, 1) := by decide +kernel
theorem d_T_isTrue_66 : decode prog_6_method_17_code 66 = .ok (.lcmp, 1) := by decide +kernel
theorem d_T_isTrue_67 : decode prog_6_method_17_code 67 = .ok (.ifCond .gt (7), 3) := by decide +kernel
theorem d_T_isTrue_70 : decode prog_6_method_17_code 70 = .ok (.iconst 1, 1) := by decide +kernel
theorem d_T_isTrue_71 : decode prog_6_method_17_code 71 = .ok (.goto (4), 3) := by decide +kernel
theorem d_T_isTrue_74 : decode prog_6_method_17_code 74 = .ok (.iconst 0, 1) := by decide +kernel
theorem d_T_isTrue_75 : decode prog_6_method_17_code 75 = .ok (.ireturn, 1) := by decide +kernel
theorem d_T_isTrue_76 : decode prog_6_method_17_code 76 = .ok (.lload_n 1, 1) := by decide +kernel
theorem d_T_isTrue_77 : decode prog_6_method_17_code 77 = .ok (.lload_n 3, 1) := by decide +kernel
theorem d_T_isTrue_78 : decode prog_6_method_17_code 78 = .ok (.lcmp, 1) := by decide +kernel
theorem d_T_isTrue_79 : decode prog_6_method_17_code 79 = .ok (.ifCond .le (7), 3) := by decide +kernel
theorem d_T_isTrue_82 : decode prog_6_method_17_code 82 = .ok (.iconst 1, 1) := by decide +kernel
theorem d_T_isTrue_83 : decode prog_6_method_17_code 83 = .ok (.goto (4), 3) := by decide +kernel
theorem d_T_isTrue_86 : decode prog_6_method_17_code 86 = .ok (.iconst 0, 1) := by decide +kernel
theorem d_T_isTrue_87 : decode prog_6_method_17_code 87 = .ok (.ireturn, 1) := by decide +kernel
theorem d_T_isTrue_88 : decode prog_6_method_17_code 88 = .ok (.lload_n 1, 1) := by decide +kernel
theorem d_T_isTrue_89 : decode prog_6_method_17_code 89 = .ok (.lload_n 3, 1) := by decide +kernel
theorem d_T_isTrue_90 : decode prog_6_method_17_code 90 = .ok (.lcmp, 1) := by decide +kernel
theorem d_T_isTrue_91 : decode prog_6_method_17_code 91 = .ok (.ifCond .lt (7), 3) := by decide +kernel
theorem d_T_isTrue_94 : decode prog_6_method_17_code 94 = .ok (.iconst 1, 1) := by decide +kernel
theorem d_T_isTrue_95 : decode prog_6_method_17_code 95 = .ok (.goto (4), 3) := by decide +kernel
theorem d_T_isTrue_98 : decode prog_6_method_17_code 98 = .ok (.iconst 0, 1) := by decide +kernel
theorem d_T_isTrue_99 : decode prog_6_method_17_code 99 = .ok (.ireturn, 1) := by decide +kernel
theorem d_T_isTrue_100 : decode prog_6_method_17_code 100 = .ok (.lload_n 1, 1) := by decide +kernel
theorem d_T_isTrue_101 : decode prog_6_method_17_code 101 = .ok (.lload_n 3, 1) := by decide +kernel
theorem d_T_isTrue_102 : decode prog_6_method_17_code 102 = .ok (.lcmp, 1) := by decide +kernel
theorem d_T_isTrue_103 : decode prog_6_method_17_code 103 = .ok (.ifCond .ne (7), 3) := by decide +kernel
theorem d_T_isTrue_106 : decode prog_6_method_17_code 106 = .ok (.iconst 1, 1) := by decide +kernel
theorem d_T_isTrue_107 : decode prog_6_method_17_code 107 = .ok (.goto (4), 3) := by decide +kernel
theorem d_T_isTrue_110 : decode prog_6_method_17_code 110 = .ok (.iconst 0, 1) := by decide +kernel
theorem d_T_isTrue_111 : decode prog_6_method_17_code 111 = .ok (.ireturn, 1) := by decide +kernel
theorem d_T_isTrue_112 : decode prog_6_method_17_code 112 = .ok (.lload_n 1, 1) := by decide +kernel
theorem d_T_isTrue_113 : decode prog_6_method_17_code 113 = .ok (.lload_n 3, 1) := by decide +kernel
theorem d_T_isTrue_114 : decode prog_6_method_17_code 114 = .ok (.lcmp, 1) := by decide +kernel
theorem d_T_isTrue_115 : decode prog_6_method_17_code 115 = .ok (.ifCond .eq (7), 3) := by decide +kernel
theorem d_T_isTrue_118 : decode prog_6_method_17_code 118 = .ok (.iconst 1, 1) := by decide +kernel
theorem d_T_isTrue_119 : decode prog_6_method_17_code 119 = .ok (.goto (4), 3) := by decide +kernel
theorem d_T_isTrue_122 : decode prog_6_method_17_code 122 = .ok (.iconst 0, 1) := by decide +kernel
theorem d_T_isTrue_123 : decode prog_6_method_17_code 123 = .ok (.ireturn, 1) := by decide +kernel
theorem d_T_isTrue_124 : decode prog_6_method_17_code 124 = .ok (.lload_n 3, 1) := by decide +kernel
theorem d_T_isTrue_125 : decode prog_6_method_17_code 125 = .ok (.lconst 0, 1) := by decide +kernel
theorem d_T_isTrue_126 : decode prog_6_method_17_code 126 = .ok (.lcmp, 1) := by decide +kernel
theorem d_T_isTrue_127 : decode prog_6_method_17_code 127 = .ok (.ifCond .ne (7), 3) := by decide +kernel
theorem d_T_isTrue_130 : decode prog_6_method_17_code 130 = .ok (.iconst 1, 1) := by decide +kernel
theorem d_T_isTrue_131 : decode prog_6_method_17_code 131 = .ok (.goto (4), 3) := by decide +kernel
theorem d_T_isTrue_134 : decode prog_6_method_17_code 134 = .ok (.iconst 0, 1) := by decide +kernel
theorem d_T_isTrue_135 : decode prog_6_method_17_code 135 = .ok (.ireturn, 1) := by decide +kernel
theorem d_T_isTrue_136 : decode prog_6_method_17_code 136 = .ok (.lload_n 1, 1) := by decide +kernel
theorem d_T_isTrue_137 : decode prog_6_method_17_code 137 = .ok (.lconst 0, 1) := by decide +kernel
theorem d_T_isTrue_138 : decode prog_6_method_17_code 138 = .ok (.lcmp, 1) := by decide +kernel
theorem d_T_isTrue_139 : decode prog_6_method_17_code 139 = .ok (.ifCond .eq (13), 3) := by decide +kernel
theorem d_T_isTrue_142 : decode prog_6_method_17_code 142 = .ok (.lload_n 3, 1) := by decide +kernel
theorem d_T_isTrue_143 : decode prog_6_method_17_code 143 = .ok (.lconst 0, 1) := by decide +kernel
theorem d_T_isTrue_144 : decode prog_6_method_17_code 144 = .ok (.lcmp, 1) := by decide +kernel
theorem d_T_isTrue_145 : decode prog_6_method_17_code 145 = .ok (.ifCond .eq (7), 3) := by decide +kernel
theorem d_T_isTrue_148 : decode prog_6_method_17_code 148 = .ok (.iconst 1, 1) := by decide +kernel
theorem d_T_isTrue_149 : decode prog_6_method_17_code 149 = .ok (.goto (4), 3) := by decide +kernel
theorem d_T_isTrue_152 : decode prog_6_method_17_code 152 = .ok (.iconst 0, 1) := by decide +kernel
theorem d_T_isTrue_153 : decode prog_6_method_17_code 153 = .ok (.ireturn, 1) := by decide +kernel
theorem d_T_isTrue_154 : decode prog_6_method_17_code 154 = .ok (.lload_n 1, 1) := by decide +kernel
theorem d_T_isTrue_155 : decode prog_6_method_17_code 155 = .ok (.lconst 0, 1) := by decide +kernel
theorem d_T_isTrue_156 : decode prog_6_method_17_code 156 = .ok (.lcmp, 1) := by decide +kernel
theorem d_T_isTrue_157 : decode prog_6_method_17_code 157 = .ok (.ifCond .ne (9), 3) := by decide +kernel
theorem d_T_isTrue_160 : decode prog_6_method_17_code 160 = .ok (.lload_n 3, 1) := by decide +kernel
theorem d_T_isTrue_161 : decode prog_6_method_17_code 161 = .ok (.lconst 0, 1) := by decide +kernel
theorem d_T_isTrue_162 : decode prog_6_method_17_code 162 = .ok (.lcmp, 1) := by decide +kernel
theorem d_T_isTrue_163 : decode prog_6_method_17_code 163 = .ok (.ifCond .eq (7), 3) := by decide +kernel
theorem d_T_isTrue_166 : decode prog_6_method_17_code 166 = .ok (.iconst 1, 1) := by decide +kernel
theorem d_T_isTrue_167 : decode prog_6_method_17_code 167 = .ok (.goto (4), 3) := by decide +kernel
theorem d_T_isTrue_170 : decode prog_6_method_17_code 170 = .ok (.iconst 0, 1) := by decide +kernel
theorem d_T_isTrue_171 : decode prog_6_method_17_code 171 = .ok (.ireturn, 1) := by decide +kernel
theorem d_T_isTrue_172 : decode prog_6_method_17_code 172 = .ok (.iconst 0, 1) := by decide +kernel
theorem d_T_isTrue_173 : decode prog_6_method_17_code 173 = .ok (.ireturn, 1) := by decide +kernel
def b_T_isTrue_63 (post : Int32 → zH → Prop) (s0 : Int32) (h : zH) : Prop := (narrow .boolean (.int s0) = .int s0 ∧ post s0 h)
def b_T_isTrue_75 (post : Int32 → zH → Prop) (s0 : Int32) (h : zH) : Prop := (narrow .boolean (.int s0) = .int s0 ∧ post s0 h)
def b_T_isTrue_87 (post : Int32 → zH → Prop) (s0 : Int32) (h : zH) : Prop := (narrow .boolean (.int s0) = .int s0 ∧ post s0 h)
def b_T_isTrue_99 (post : Int32 → zH → Prop) (s0 : Int32) (h : zH) : Prop := (narrow .boolean (.int s0) = .int s0 ∧ post s0 h)
def b_T_isTrue_111 (post : Int32 → zH → Prop) (s0 : Int32) (h : zH) : Prop := (narrow .boolean (.int s0) = .int s0 ∧ post s0 h)
def b_T_isTrue_123 (post : Int32 → zH → Prop) (s0 : Int32) (h : zH) : Prop := (narrow .boolean (.int s0) = .int s0 ∧ post s0 h)
def b_T_isTrue_135 (post : Int32 → zH → Prop) (s0 : Int32) (h : zH) : Prop := (narrow .boolean (.int s0) = .int s0 ∧ post s0 h)
def b_T_isTrue_153 (post : Int32 → zH → Prop) (s0 : Int32) (h : zH) : Prop := (narrow .boolean (.int s0) = .int s0 ∧ post s0 h)
def b_T_isTrue_152 (post : Int32 → zH → Prop) (h : zH) : Prop := b_T_isTrue_153 post (0) h
def b_T_isTrue_171 (post : Int32 → zH → Prop) (s0 : Int32) (h : zH) : Prop := (narrow .boolean (.int s0) = .int s0 ∧ post s0 h)
def b_T_isTrue_166 (post : Int32 → zH → Prop) (h : zH) : Prop := b_T_isTrue_171 post (1) h
def wp_T_isTrue (l0 : Int32) (l1 : Int64) (l3 : Int64) (h : zH) (post : Int32 → zH → Prop) : Prop := ((l0 = 14 → ((0 ≤ (lg_cmp l1 l3) → b_T_isTrue_63 post (0) h) ∧ (¬ 0 ≤ (lg_cmp l1 l3) → b_T_isTrue_63 post (1) h))) ∧ (¬ l0 = 14 → ((l0 = 15 → ((0 < (lg_cmp l1 l3) → b_T_isTrue_75 post (0) h) ∧ (¬ 0 < (lg_cmp l1 l3) → b_T_isTrue_75 post (1) h))) ∧ (¬ l0 = 15 → ((l0 = 16 → (((lg_cmp l1 l3) ≤ 0 → b_T_isTrue_87 post (0) h) ∧ (¬ (lg_cmp l1 l3) ≤ 0 → b_T_isTrue_87 post (1) h))) ∧ (¬ l0 = 16 → ((l0 = 17 → (((lg_cmp l1 l3) < 0 → b_T_isTrue_99 post (0) h) ∧ (¬ (lg_cmp l1 l3) < 0 → b_T_isTrue_99 post (1) h))) ∧ (¬ l0 = 17 → ((l0 = 18 → ((¬ (lg_cmp l1 l3) = 0 → b_T_isTrue_111 post (0) h) ∧ ((lg_cmp l1 l3) = 0 → b_T_isTrue_111 post (1) h))) ∧ (¬ l0 = 18 → ((l0 = 19 → (((lg_cmp l1 l3) = 0 → b_T_isTrue_123 post (0) h) ∧ (¬ (lg_cmp l1 l3) = 0 → b_T_isTrue_123 post (1) h))) ∧ (¬ l0 = 19 → ((l0 = 20 → ((¬ (lg_cmp l3 0) = 0 → b_T_isTrue_135 post (0) h) ∧ ((lg_cmp l3 0) = 0 → b_T_isTrue_135 post (1) h))) ∧ (¬ l0 = 20 → ((l0 = 21 → (((lg_cmp l1 0) = 0 → b_T_isTrue_152 post  h) ∧ (¬ (lg_cmp l1 0) = 0 → (((lg_cmp l3 0) = 0 → b_T_isTrue_152 post  h) ∧ (¬ (lg_cmp l3 0) = 0 → b_T_isTrue_153 post (1) h))))) ∧ (¬ l0 = 21 → ((l0 = 22 → ((¬ (lg_cmp l1 0) = 0 → b_T_isTrue_166 post  h) ∧ ((lg_cmp l1 0) = 0 → (((lg_cmp l3 0) = 0 → b_T_isTrue_171 post (0) h) ∧ (¬ (lg_cmp l3 0) = 0 → b_T_isTrue_166 post  h))))) ∧ (¬ l0 = 22 → post 0 h))))))))))))))))))
set_option maxRecDepth 100000 in
set_option maxHeartbeats 4000000 in
theorem w_T_isTrue_63 {l : Launch} {E : zE} {G : (Nat → Prop) → State → Prop} {p : Program} {e : Env} {s : State} {m : MethodId} {args : Array Value} {below : List Frame} {meth : Method} {c : Code} {A : Nat → Prop} {post : Int32 → zH → Prop} (hG : xGG E G) (C : zCx p s m args meth c E G A 0 0 prog_6_method_17_code 5 cn_T) (hr : meth.sig.returnType = (some .boolean))  (s0 : Int32) (h : zH) (hw : b_T_isTrue_63 post s0 h) : zGo p l e s m args below meth c E A 0 0 5 (zPi post) h 63 [none, none, none, none, none] [.int s0] := by
  unfold b_T_isTrue_63 at hw
  exact z_zret C hr hw.1 d_T_isTrue_63 hw.2
set_option maxRecDepth 100000 in
set_option maxHeartbeats 4000000 in
theorem w_T_isTrue_75 {l : Launch} {E : zE} {G : (Nat → Prop) → State → Prop} {p : Program} {e : Env} {s : State} {m : MethodId} {args : Array Value} {below : List Frame} {meth : Method} {c : Code} {A : Nat → Prop} {post : Int32 → zH → Prop} (hG : xGG E G) (C : zCx p s m args meth c E G A 0 0 prog_6_method_17_code 5 cn_T) (hr : meth.sig.returnType = (some .boolean))  (s0 : Int32) (h : zH) (hw : b_T_isTrue_75 post s0 h) : zGo p l e s m args below meth c E A 0 0 5 (zPi post) h 75 [none, none, none, none, none] [.int s0] := by
  unfold b_T_isTrue_75 at hw
  exact z_zret C hr hw.1 d_T_isTrue_75 hw.2
set_option maxRecDepth 100000 in
set_option maxHeartbeats 4000000 in
theorem w_T_isTrue_87 {l : Launch} {E : zE} {G : (Nat → Prop) → State → Prop} {p : Program} {e : Env} {s : State} {m : MethodId} {args : Array Value} {below : List Frame} {meth : Method} {c : Code} {A : Nat → Prop} {post : Int32 → zH → Prop} (hG : xGG E G) (C : zCx p s m args meth c E G A 0 0 prog_6_method_17_code 5 cn_T) (hr : meth.sig.returnType = (some .boolean))  (s0 : Int32) (h : zH) (hw : b_T_isTrue_87 post s0 h) : zGo p l e s m args below meth c E A 0 0 5 (zPi post) h 87 [none, none, none, none, none] [.int s0] := by
  unfold b_T_isTrue_87 at hw
  exact z_zret C hr hw.1 d_T_isTrue_87 hw.2
set_option maxRecDepth 100000 in
set_option maxHeartbeats 4000000 in
theorem w_T_isTrue_99 {l : Launch} {E : zE} {G : (Nat → Prop) → State → Prop} {p : Program} {e : Env} {s : State} {m : MethodId} {args : Array Value} {below : List Frame} {meth : Method} {c : Code} {A : Nat → Prop} {post : Int32 → zH → Prop} (hG : xGG E G) (C : zCx p s m args meth c E G A 0 0 prog_6_method_17_code 5 cn_T) (hr : meth.sig.returnType = (some .boolean))  (s0 : Int32) (h : zH) (hw : b_T_isTrue_99 post s0 h) : zGo p l e s m args below meth c E A 0 0 5 (zPi post) h 99 [none, none, none, none, none] [.int s0] := by
  unfold b_T_isTrue_99 at hw
  exact z_zret C hr hw.1 d_T_isTrue_99 hw.2
set_option maxRecDepth 100000 in
set_option maxHeartbeats 4000000 in
theorem w_T_isTrue_111 {l : Launch} {E : zE} {G : (Nat → Prop) → State → Prop} {p : Program} {e : Env} {s : State} {m : MethodId} {args : Array Value} {below : List Frame} {meth : Method} {c : Code} {A : Nat → Prop} {post : Int32 → zH → Prop} (hG : xGG E G) (C : zCx p s m args meth c E G A 0 0 prog_6_method_17_code 5 cn_T) (hr : meth.sig.returnType = (some .boolean))  (s0 : Int32) (h : zH) (hw : b_T_isTrue_111 post s0 h) : zGo p l e s m args below meth c E A 0 0 5 (zPi post) h 111 [none, none, none, none, none] [.int s0] := by
  unfold b_T_isTrue_111 at hw
  exact z_zret C hr hw.1 d_T_isTrue_111 hw.2
set_option maxRecDepth 100000 in
set_option maxHeartbeats 4000000 in
theorem w_T_isTrue_123 {l : Launch} {E : zE} {G : (Nat → Prop) → State → Prop} {p : Program} {e : Env} {s : State} {m : MethodId} {args : Array Value} {below : List Frame} {meth : Method} {c : Code} {A : Nat → Prop} {post : Int32 → zH → Prop} (hG : xGG E G) (C : zCx p s m args meth c E G A 0 0 prog_6_method_17_code 5 cn_T) (hr : meth.sig.returnType = (some .boolean))  (s0 : Int32) (h : zH) (hw : b_T_isTrue_123 post s0 h) : zGo p l e s m args below meth c E A 0 0 5 (zPi post) h 123 [none, none, none, none, none] [.int s0] := by
  unfold b_T_isTrue_123 at hw
  exact z_zret C hr hw.1 d_T_isTrue_123 hw.2
set_option maxRecDepth 100000 in
set_option maxHeartbeats 4000000 in
theorem w_T_isTrue_135 {l : Launch} {E : zE} {G : (Nat → Prop) → State → Prop} {p : Program} {e : Env} {s : State} {m : MethodId} {args : Array Value} {below : List Frame} {meth : Method} {c : Code} {A : Nat → Prop} {post : Int32 → zH → Prop} (hG : xGG E G) (C : zCx p s m args meth c E G A 0 0 prog_6_method_17_code 5 cn_T) (hr : meth.sig.returnType = (some .boolean))  (s0 : Int32) (h : zH) (hw : b_T_isTrue_135 post s0 h) : zGo p l e s m args below meth c E A 0 0 5 (zPi post) h 135 [none, none, none, none, none] [.int s0] := by
  unfold b_T_isTrue_135 at hw
  exact z_zret C hr hw.1 d_T_isTrue_135 hw.2
set_option maxRecDepth 100000 in
set_option maxHeartbeats 4000000 in
theorem w_T_isTrue_153 {l : Launch} {E : zE} {G : (Nat → Prop) → State → Prop} {p : Program} {e : Env} {s : State} {m : MethodId} {args : Array Value} {below : List Frame} {meth : Method} {c : Code} {A : Nat → Prop} {post : Int32 → zH → Prop} (hG : xGG E G) (C : zCx p s m args meth c E G A 0 0 prog_6_method_17_code 5 cn_T) (hr : meth.sig.returnType = (some .boolean))  (s0 : Int32) (h : zH) (hw : b_T_isTrue_153 post s0 h) : zGo p l e s m args below meth c E A 0 0 5 (zPi post) h 153 [none, none, none, none, none] [.int s0] := by
  unfold b_T_isTrue_153 at hw
  exact z_zret C hr hw.1 d_T_isTrue_153 hw.2
set_option maxRecDepth 100000 in
set_option maxHeartbeats 4000000 in
theorem w_T_isTrue_152 {l : Launch} {E : zE} {G : (Nat → Prop) → State → Prop} {p : Program} {e : Env} {s : State} {m : MethodId} {args : Array Value} {below : List Frame} {meth : Method} {c : Code} {A : Nat → Prop} {post : Int32 → zH → Prop} (hG : xGG E G) (C : zCx p s m args meth c E G A 0 0 prog_6_method_17_code 5 cn_T) (hr : meth.sig.returnType = (some .boolean))  (h : zH) (hw : b_T_isTrue_152 post  h) : zGo p l e s m args below meth c E A 0 0 5 (zPi post) h 152 [none, none, none, none, none] [] := by
  unfold b_T_isTrue_152 at hw
  refine z_iconst C (v := 0) d_T_isTrue_152 (by decide) ?_
  refine z_le (lv2 := [none, none, none, none, none]) (trivial) ?_
  exact w_T_isTrue_153 hG C hr _ _ hw
set_option maxRecDepth 100000 in
set_option maxHeartbeats 4000000 in
theorem w_T_isTrue_171 {l : Launch} {E : zE} {G : (Nat → Prop) → State → Prop} {p : Program} {e : Env} {s : State} {m : MethodId} {args : Array Value} {below : List Frame} {meth : Method} {c : Code} {A : Nat → Prop} {post : Int32 → zH → Prop} (hG : xGG E G) (C : zCx p s m args meth c E G A 0 0 prog_6_method_17_code 5 cn_T) (hr : meth.sig.returnType = (some .boolean))  (s0 : Int32) (h : zH) (hw : b_T_isTrue_171 post s0 h) : zGo p l e s m args below meth c E A 0 0 5 (zPi post) h 171 [none, none, none, none, none] [.int s0] := by
  unfold b_T_isTrue_171 at hw
  exact z_zret C hr hw.1 d_T_isTrue_171 hw.2
set_option maxRecDepth 100000 in
set_option maxHeartbeats 4000000 in
theorem w_T_isTrue_166 {l : Launch} {E : zE} {G : (Nat → Prop) → State → Prop} {p : Program} {e : Env} {s : State} {m : MethodId} {args : Array Value} {below : List Frame} {meth : Method} {c : Code} {A : Nat → Prop} {post : Int32 → zH → Prop} (hG : xGG E G) (C : zCx p s m args meth c E G A 0 0 prog_6_method_17_code 5 cn_T) (hr : meth.sig.returnType = (some .boolean))  (h : zH) (hw : b_T_isTrue_166 post  h) : zGo p l e s m args below meth c E A 0 0 5 (zPi post) h 166 [none, none, none, none, none] [] := by
  unfold b_T_isTrue_166 at hw
  refine z_iconst C (v := 1) d_T_isTrue_166 (by decide) ?_
  refine z_goto C (tgt := 171) d_T_isTrue_167 (by decide) ?_
  refine z_le (lv2 := [none, none, none, none, none]) (trivial) ?_
  exact w_T_isTrue_171 hG C hr _ _ hw
set_option maxRecDepth 100000 in
set_option maxHeartbeats 4000000 in
theorem t_T_isTrue {l : Launch} {E : zE} {G : (Nat → Prop) → State → Prop} (hG : xGG E G) {l0 : Int32} {l1 : Int64} {l3 : Int64} {h : zH} {post : Int32 → zH → Prop} (hw : wp_T_isTrue l0 l1 l3 h post) : Ct l xX E xcl xN zT G 0 0 y_T_isTrue prog_6_method_17_code 5 (some .boolean) [.int l0, .long l1, .long l3] h (zPi post) := by
  unfold wp_T_isTrue at hw
  refine Ct.of (by decide) (Nat.le_of_ble_eq_true rfl) ?_
  intro p e s m below meth c A C hr
  refine z_lv (lv2 := [some (.int l0), some (.long l1), none, some (.long l3), none]) rfl ?_
  refine z_iload_n C (i := 0) d_T_isTrue_0 rfl rfl ?_
  refine z_tcase C (off := 51) (tgt := 52) (14 : Int32) d_T_isTrue_1 (by decide) (by decide) rfl (by decide) (fun q0 => ?_) (fun q0 => ?_)
  · replace hw := hw.1 q0
    refine z_lload_n C (i := 1) d_T_isTrue_52 rfl rfl ?_
    refine z_lload_n C (i := 3) d_T_isTrue_53 rfl rfl ?_
    refine z_lcmp C d_T_isTrue_54 ?_
    refine z_if_ge C (tgt := 62) d_T_isTrue_55 (by decide) (fun q => ?_) (fun q => ?_)
    · replace hw := hw.1 q
      refine z_iconst C (v := 0) d_T_isTrue_62 (by decide) ?_
      refine z_le (lv2 := [none, none, none, none, none]) (trivial) ?_
      exact w_T_isTrue_63 hG C hr _ _ hw
    · replace hw := hw.2 q
      refine z_iconst C (v := 1) d_T_isTrue_58 (by decide) ?_
      refine z_goto C (tgt := 63) d_T_isTrue_59 (by decide) ?_
      refine z_le (lv2 := [none, none, none, none, none]) (trivial) ?_
      exact w_T_isTrue_63 hG C hr _ _ hw
  replace hw := hw.2 q0
  refine z_tcase C (off := 63) (tgt := 64) (15 : Int32) d_T_isTrue_1 (by decide) (by decide) rfl (by decide) (fun q1 => ?_) (fun q1 => ?_)
  · replace hw := hw.1 q1
    refine z_lload_n C (i := 1) d_T_isTrue_64 rfl rfl ?_
    refine z_lload_n C (i := 3) d_T_isTrue_65 rfl rfl ?_
    refine z_lcmp C d_T_isTrue_66 ?_
    refine z_if_gt C (tgt := 74) d_T_isTrue_67 (by decide) (fun q => ?_) (fun q => ?_)
    · replace hw := hw.1 q
      refine z_iconst C (v := 0) d_T_isTrue_74 (by decide) ?_
      refine z_le (lv2 := [none, none, none, none, none]) (trivial) ?_
      exact w_T_isTrue_75 hG C hr _ _ hw
    · replace hw := hw.2 q
      refine z_iconst C (v := 1) d_T_isTrue_70 (by decide) ?_
      refine z_goto C (tgt := 75) d_T_isTrue_71 (by decide) ?_
      refine z_le (lv2 := [none, none, none, none, none]) (trivial) ?_
      exact w_T_isTrue_75 hG C hr _ _ hw
  replace hw := hw.2 q1
  refine z_tcase C (off := 75) (tgt := 76) (16 : Int32) d_T_isTrue_1 (by decide) (by decide) rfl (by decide) (fun q2 => ?_) (fun q2 => ?_)
  · replace hw := hw.1 q2
    refine z_lload_n C (i := 1) d_T_isTrue_76 rfl rfl ?_
    refine z_lload_n C (i := 3) d_T_isTrue_77 rfl rfl ?_
    refine z_lcmp C d_T_isTrue_78 ?_
    refine z_if_le C (tgt := 86) d_T_isTrue_79 (by decide) (fun q => ?_) (fun q => ?_)
    · replace hw := hw.1 q
      refine z_iconst C (v := 0) d_T_isTrue_86 (by decide) ?_
      refine z_le (lv2 := [none, none, none, none, none]) (trivial) ?_
      exact w_T_isTrue_87 hG C hr _ _ hw
    · replace hw := hw.2 q
      refine z_iconst C (v := 1) d_T_isTrue_82 (by decide) ?_
      refine z_goto C (tgt := 87) d_T_isTrue_83 (by decide) ?_
      refine z_le (lv2 := [none, none, none, none, none]) (trivial) ?_
      exact w_T_isTrue_87 hG C hr _ _ hw
  replace hw := hw.2 q2
  refine z_tcase C (off := 87) (tgt := 88) (17 : Int32) d_T_isTrue_1 (by decide) (by decide) rfl (by decide) (fun q3 => ?_) (fun q3 => ?_)
  · replace hw := hw.1 q3
    refine z_lload_n C (i := 1) d_T_isTrue_88 rfl rfl ?_
    refine z_lload_n C (i := 3) d_T_isTrue_89 rfl rfl ?_
    refine z_lcmp C d_T_isTrue_90 ?_
    refine z_if_lt C (tgt := 98) d_T_isTrue_91 (by decide) (fun q => ?_) (fun q => ?_)
    · replace hw := hw.1 q
      refine z_iconst C (v := 0) d_T_isTrue_98 (by decide) ?_
      refine z_le (lv2 := [none, none, none, none, none]) (trivial) ?_
      exact w_T_isTrue_99 hG C hr _ _ hw
    · replace hw := hw.2 q
      refine z_iconst C (v := 1) d_T_isTrue_94 (by decide) ?_
      refine z_goto C (tgt := 99) d_T_isTrue_95 (by decide) ?_
      refine z_le (lv2 := [none, none, none, none, none]) (trivial) ?_
      exact w_T_isTrue_99 hG C hr _ _ hw
  replace hw := hw.2 q3
  refine z_tcase C (off := 99) (tgt := 100) (18 : Int32) d_T_isTrue_1 (by decide) (by decide) rfl (by decide) (fun q4 => ?_) (fun q4 => ?_)
  · replace hw := hw.1 q4
    refine z_lload_n C (i := 1) d_T_isTrue_100 rfl rfl ?_
    refine z_lload_n C (i := 3) d_T_isTrue_101 rfl rfl ?_
    refine z_lcmp C d_T_isTrue_102 ?_
    refine z_if_ne C (tgt := 110) d_T_isTrue_103 (by decide) (fun q => ?_) (fun q => ?_)
    · replace hw := hw.1 q
      refine z_iconst C (v := 0) d_T_isTrue_110 (by decide) ?_
      refine z_le (lv2 := [none, none, none, none, none]) (trivial) ?_
      exact w_T_isTrue_111 hG C hr _ _ hw
    · replace hw := hw.2 q
      refine z_iconst C (v := 1) d_T_isTrue_106 (by decide) ?_
      refine z_goto C (tgt := 111) d_T_isTrue_107 (by decide) ?_
      refine z_le (lv2 := [none, none, none, none, none]) (trivial) ?_
      exact w_T_isTrue_111 hG C hr _ _ hw
  replace hw := hw.2 q4
  refine z_tcase C (off := 111) (tgt := 112) (19 : Int32) d_T_isTrue_1 (by decide) (by decide) rfl (by decide) (fun q5 => ?_) (fun q5 => ?_)
  · replace hw := hw.1 q5
    refine z_lload_n C (i := 1) d_T_isTrue_112 rfl rfl ?_
    refine z_lload_n C (i := 3) d_T_isTrue_113 rfl rfl ?_
    refine z_lcmp C d_T_isTrue_114 ?_
    refine z_if_eq C (tgt := 122) d_T_isTrue_115 (by decide) (fun q => ?_) (fun q => ?_)
    · replace hw := hw.1 q
      refine z_iconst C (v := 0) d_T_isTrue_122 (by decide) ?_
      refine z_le (lv2 := [none, none, none, none, none]) (trivial) ?_
      exact w_T_isTrue_123 hG C hr _ _ hw
    · replace hw := hw.2 q
      refine z_iconst C (v := 1) d_T_isTrue_118 (by decide) ?_
      refine z_goto C (tgt := 123) d_T_isTrue_119 (by decide) ?_
      refine z_le (lv2 := [none, none, none, none, none]) (trivial) ?_
      exact w_T_isTrue_123 hG C hr _ _ hw
  replace hw := hw.2 q5
  refine z_tcase C (off := 123) (tgt := 124) (20 : Int32) d_T_isTrue_1 (by decide) (by decide) rfl (by decide) (fun q6 => ?_) (fun q6 => ?_)
  · replace hw := hw.1 q6
    refine z_lload_n C (i := 3) d_T_isTrue_124 rfl rfl ?_
    refine z_lconst C (v := 0) d_T_isTrue_125 (by decide) ?_
    refine z_lcmp C d_T_isTrue_126 ?_
    refine z_if_ne C (tgt := 134) d_T_isTrue_127 (by decide) (fun q => ?_) (fun q => ?_)
    · replace hw := hw.1 q
      refine z_iconst C (v := 0) d_T_isTrue_134 (by decide) ?_
      refine z_le (lv2 := [none, none, none, none, none]) (trivial) ?_
      exact w_T_isTrue_135 hG C hr _ _ hw
    · replace hw := hw.2 q
      refine z_iconst C (v := 1) d_T_isTrue_130 (by decide) ?_
      refine z_goto C (tgt := 135) d_T_isTrue_131 (by decide) ?_
      refine z_le (lv2 := [none, none, none, none, none]) (trivial) ?_
      exact w_T_isTrue_135 hG C hr _ _ hw
  replace hw := hw.2 q6
  refine z_tcase C (off := 135) (tgt := 136) (21 : Int32) d_T_isTrue_1 (by decide) (by decide) rfl (by decide) (fun q7 => ?_) (fun q7 => ?_)
  · replace hw := hw.1 q7
    refine z_lload_n C (i := 1) d_T_isTrue_136 rfl rfl ?_
    refine z_lconst C (v := 0) d_T_isTrue_137 (by decide) ?_
    refine z_lcmp C d_T_isTrue_138 ?_
    refine z_if_eq C (tgt := 152) d_T_isTrue_139 (by decide) (fun q => ?_) (fun q => ?_)
    · replace hw := hw.1 q
      refine z_le (lv2 := [none, none, none, none, none]) (trivial) ?_
      exact w_T_isTrue_152 hG C hr  _ hw
    · replace hw := hw.2 q
      refine z_lload_n C (i := 3) d_T_isTrue_142 rfl rfl ?_
      refine z_lconst C (v := 0) d_T_isTrue_143 (by decide) ?_
      refine z_lcmp C d_T_isTrue_144 ?_
      refine z_if_eq C (tgt := 152) d_T_isTrue_145 (by decide) (fun q => ?_) (fun q => ?_)
      · replace hw := hw.1 q
        refine z_le (lv2 := [none, none, none, none, none]) (trivial) ?_
        exact w_T_isTrue_152 hG C hr  _ hw
      · replace hw := hw.2 q
        refine z_iconst C (v := 1) d_T_isTrue_148 (by decide) ?_
        refine z_goto C (tgt := 153) d_T_isTrue_149 (by decide) ?_
        refine z_le (lv2 := [none, none, none, none, none]) (trivial) ?_
        exact w_T_isTrue_153 hG C hr _ _ hw
  replace hw := hw.2 q7
  refine z_tcase C (off := 153) (tgt := 154) (22 : Int32) d_T_isTrue_1 (by decide) (by decide) rfl (by decide) (fun q8 => ?_) (fun q8 => ?_)
  · replace hw := hw.1 q8
    refine z_lload_n C (i := 1) d_T_isTrue_154 rfl rfl ?_
    refine z_lconst C (v := 0) d_T_isTrue_155 (by decide) ?_
    refine z_lcmp C d_T_isTrue_156 ?_
    refine z_if_ne C (tgt := 166) d_T_isTrue_157 (by decide) (fun q => ?_) (fun q => ?_)
    · replace hw := hw.1 q
      refine z_le (lv2 := [none, none, none, none, none]) (trivial) ?_
      exact w_T_isTrue_166 hG C hr  _ hw
    · replace hw := hw.2 q
      refine z_lload_n C (i := 3) d_T_isTrue_160 rfl rfl ?_
      refine z_lconst C (v := 0) d_T_isTrue_161 (by decide) ?_
      refine z_lcmp C d_T_isTrue_162 ?_
      refine z_if_eq C (tgt := 170) d_T_isTrue_163 (by decide) (fun q => ?_) (fun q => ?_)
      · replace hw := hw.1 q
        refine z_iconst C (v := 0) d_T_isTrue_170 (by decide) ?_
        refine z_le (lv2 := [none, none, none, none, none]) (trivial) ?_
        exact w_T_isTrue_171 hG C hr _ _ hw
      · replace hw := hw.2 q
        refine z_le (lv2 := [none, none, none, none, none]) (trivial) ?_
        exact w_T_isTrue_166 hG C hr  _ hw
  replace hw := hw.2 q8
  refine z_tabOut C (tgt := 172) d_T_isTrue_1 (by have e0 := lv_neT q0 (a := 14) rfl; have e1 := lv_neT q1 (a := 15) rfl; have e2 := lv_neT q2 (a := 16) rfl; have e3 := lv_neT q3 (a := 17) rfl; have e4 := lv_neT q4 (a := 18) rfl; have e5 := lv_neT q5 (a := 19) rfl; have e6 := lv_neT q6 (a := 20) rfl; have e7 := lv_neT q7 (a := 21) rfl; have e8 := lv_neT q8 (a := 22) rfl; omega) (by decide) ?_
  refine z_iconst C (v := 0) d_T_isTrue_172 (by decide) ?_
  exact z_zret C hr rfl d_T_isTrue_173 hw
theorem d_T_numberOf_0 : decode prog_6_method_16_code 0 = .ok (.iload_n 0, 1) := by decide +kernel
theorem d_T_numberOf_1 : decode prog_6_method_16_code 1 = .ok (.tableswitch (147) (9) (26) #[90, 94, 98, 102, 116, 147, 147, 147, 147, 147, 147, 147, 147, 147, 130, 136, 142, 87], 87) := by decide +kernel
theorem d_T_numberOf_88 : decode prog_6_method_16_code 88 = .ok (.lload_n 3, 1) := by decide +kernel
theorem d_T_numberOf_89 : decode prog_6_method_16_code 89 = .ok (.lneg, 1) := by decide +kernel
theorem d_T_numberOf_90 : decode prog_6_method_16_code 90 = .ok (.lreturn, 1) := by decide +kernel
theorem d_T_numberOf_91 : decode prog_6_method_16_code 91 = .ok (.lload_n 1, 1) := by decide +kernel
theorem d_T_numberOf_92 : decode prog_6_method_16_code 92 = .ok (.lload_n 3, 1) := by decide +kernel
theorem d_T_numberOf_93 : decode prog_6_method_16_code 93 = .ok (.ladd, 1) := by decide +kernel
theorem d_T_numberOf_94 : decode prog_6_method_16_code 94 = .ok (.lreturn, 1) := by decide +kernel
theorem d_T_numberOf_95 : decode prog_6_method_16_code 95 = .ok (.lload_n 1, 1) := by decide +kernel
theorem d_T_numberOf_96 : decode prog_6_method_16_code 96 = .ok (.lload_n 3, 1) := by decide +kernel
theorem d_T_numberOf_97 : decode prog_6_method_16_code 97 = .ok (.lsub, 1) := by decide +kernel
theorem d_T_numberOf_98 : decode prog_6_method_16_code 98 = .ok (.lreturn, 1) := by decide +kernel
theorem d_T_numberOf_99 : decode prog_6_method_16_code 99 = .ok (.lload_n 1, 1) := by decide +kernel
theorem d_T_numberOf_100 : decode prog_6_method_16_code 100 = .ok (.lload_n 3, 1) := by decide +kernel
theorem d_T_numberOf_101 : decode prog_6_method_16_code 101 = .ok (.lmul, 1) := by decide +kernel
theorem d_T_numberOf_102 : decode prog_6_method_16_code 102 = .ok (.lreturn, 1) := by decide +kernel
theorem d_T_numberOf_103 : decode prog_6_method_16_code 103 = .ok (.lload_n 3, 1) := by decide +kernel
theorem d_T_numberOf_104 : decode prog_6_method_16_code 104 = .ok (.lconst 0, 1) := by decide +kernel
theorem d_T_numberOf_105 : decode prog_6_method_16_code 105 = .ok (.lcmp, 1) := by decide +kernel
theorem d_T_numberOf_106 : decode prog_6_method_16_code 106 = .ok (.ifCond .ne (7), 3) := by decide +kernel
theorem d_T_numberOf_109 : decode prog_6_method_16_code 109 = .ok (.lconst 0, 1) := by decide +kernel
theorem d_T_numberOf_110 : decode prog_6_method_16_code 110 = .ok (.goto (6), 3) := by decide +kernel
theorem d_T_numberOf_113 : decode prog_6_method_16_code 113 = .ok (.lload_n 1, 1) := by decide +kernel
theorem d_T_numberOf_114 : decode prog_6_method_16_code 114 = .ok (.lload_n 3, 1) := by decide +kernel
theorem d_T_numberOf_115 : decode prog_6_method_16_code 115 = .ok (.ldiv, 1) := by decide +kernel
theorem d_T_numberOf_116 : decode prog_6_method_16_code 116 = .ok (.lreturn, 1) := by decide +kernel
theorem d_T_numberOf_117 : decode prog_6_method_16_code 117 = .ok (.lload_n 3, 1) := by decide +kernel
theorem d_T_numberOf_118 : decode prog_6_method_16_code 118 = .ok (.lconst 0, 1) := by decide +kernel
theorem d_T_numberOf_119 : decode prog_6_method_16_code 119 = .ok (.lcmp, 1) := by decide +kernel
theorem d_T_numberOf_120 : decode prog_6_method_16_code 120 = .ok (.ifCond .ne (7), 3) := by decide +kernel
theorem d_T_numberOf_123 : decode prog_6_method_16_code 123 = .ok (.lconst 0, 1) := by decide +kernel
theorem d_T_numberOf_124 : decode prog_6_method_16_code 124 = .ok (.goto (6), 3) := by decide +kernel
theorem d_T_numberOf_127 : decode prog_6_method_16_code 127 = .ok (.lload_n 1, 1) := by decide +kernel
theorem d_T_numberOf_128 : decode prog_6_method_16_code 128 = .ok (.lload_n 3, 1) := by decide +kernel
theorem d_T_numberOf_129 : decode prog_6_method_16_code 129 = .ok (.lrem, 1) := by decide +kernel
theorem d_T_numberOf_130 : decode prog_6_method_16_code 130 = .ok (.lreturn, 1) := by decide +kernel
theorem d_T_numberOf_131 : decode prog_6_method_16_code 131 = .ok (.lload_n 1, 1) := by decide +kernel
theorem d_T_numberOf_132 : decode prog_6_method_16_code 132 = .ok (.lload_n 3, 1) := by decide +kernel
theorem d_T_numberOf_133 : decode prog_6_method_16_code 133 = .ok (.invokestatic 96, 3) := by decide +kernel
theorem d_T_numberOf_136 : decode prog_6_method_16_code 136 = .ok (.lreturn, 1) := by decide +kernel
theorem d_T_numberOf_137 : decode prog_6_method_16_code 137 = .ok (.lload_n 1, 1) := by decide +kernel
theorem d_T_numberOf_138 : decode prog_6_method_16_code 138 = .ok (.lload_n 3, 1) := by decide +kernel
theorem d_T_numberOf_139 : decode prog_6_method_16_code 139 = .ok (.invokestatic 100, 3) := by decide +kernel
theorem d_T_numberOf_142 : decode prog_6_method_16_code 142 = .ok (.lreturn, 1) := by decide +kernel
theorem d_T_numberOf_143 : decode prog_6_method_16_code 143 = .ok (.lload_n 3, 1) := by decide +kernel
theorem d_T_numberOf_144 : decode prog_6_method_16_code 144 = .ok (.invokestatic 102, 3) := by decide +kernel
theorem d_T_numberOf_147 : decode prog_6_method_16_code 147 = .ok (.lreturn, 1) := by decide +kernel
theorem d_T_numberOf_148 : decode prog_6_method_16_code 148 = .ok (.lconst 0, 1) := by decide +kernel
theorem d_T_numberOf_149 : decode prog_6_method_16_code 149 = .ok (.lreturn, 1) := by decide +kernel
def b_T_numberOf_116 (post : Int64 → zH → Prop) (s0 : Int64) (h : zH) : Prop := post s0 h
def b_T_numberOf_130 (post : Int64 → zH → Prop) (s0 : Int64) (h : zH) : Prop := post s0 h
def b_T_numberOf_148 (post : Int64 → zH → Prop) (h : zH) : Prop := post 0 h
def wp_T_numberOf (l0 : Int32) (l1 : Int64) (l3 : Int64) (h : zH) (post : Int64 → zH → Prop) : Prop := ((l0 = 9 → post (l1 + l3) h) ∧ (¬ l0 = 9 → ((l0 = 10 → post (l1 - l3) h) ∧ (¬ l0 = 10 → ((l0 = 11 → post (l1 * l3) h) ∧ (¬ l0 = 11 → ((l0 = 12 → ((¬ (lg_cmp l3 0) = 0 → (¬ l3 = 0 ∧ b_T_numberOf_116 post ((l1 / l3)) h)) ∧ ((lg_cmp l3 0) = 0 → b_T_numberOf_116 post (0) h))) ∧ (¬ l0 = 12 → ((l0 = 13 → ((¬ (lg_cmp l3 0) = 0 → (¬ l3 = 0 ∧ b_T_numberOf_130 post ((l1 - l1 / l3 * l3)) h)) ∧ ((lg_cmp l3 0) = 0 → b_T_numberOf_130 post (0) h))) ∧ (¬ l0 = 13 → ((l0 = 14 → b_T_numberOf_148 post  h) ∧ (¬ l0 = 14 → ((l0 = 15 → b_T_numberOf_148 post  h) ∧ (¬ l0 = 15 → ((l0 = 16 → b_T_numberOf_148 post  h) ∧ (¬ l0 = 16 → ((l0 = 17 → b_T_numberOf_148 post  h) ∧ (¬ l0 = 17 → ((l0 = 18 → b_T_numberOf_148 post  h) ∧ (¬ l0 = 18 → ((l0 = 19 → b_T_numberOf_148 post  h) ∧ (¬ l0 = 19 → ((l0 = 20 → b_T_numberOf_148 post  h) ∧ (¬ l0 = 20 → ((l0 = 21 → b_T_numberOf_148 post  h) ∧ (¬ l0 = 21 → ((l0 = 22 → b_T_numberOf_148 post  h) ∧ (¬ l0 = 22 → ((l0 = 23 → post (if l3 < l1 then l3 else l1) h) ∧ (¬ l0 = 23 → ((l0 = 24 → post (if l3 < l1 then l1 else l3) h) ∧ (¬ l0 = 24 → ((l0 = 25 → post (if 0 < l3 then l3 else -l3) h) ∧ (¬ l0 = 25 → ((l0 = 26 → post (-l3) h) ∧ (¬ l0 = 26 → b_T_numberOf_148 post  h))))))))))))))))))))))))))))))))))))
set_option maxRecDepth 100000 in
set_option maxHeartbeats 4000000 in
theorem w_T_numberOf_116 {l : Launch} {E : zE} {G : (Nat → Prop) → State → Prop} {p : Program} {e : Env} {s : State} {m : MethodId} {args : Array Value} {below : List Frame} {meth : Method} {c : Code} {A : Nat → Prop} {post : Int64 → zH → Prop} (hG : xGG E G) (C : zCx p s m args meth c E G A 1 23 prog_6_method_16_code 5 cn_T) (hr : meth.sig.returnType = (some .long))  (s0 : Int64) (h : zH) (hw : b_T_numberOf_116 post s0 h) : zGo p l e s m args below meth c E A 1 23 5 (zPl post) h 116 [none, none, none, none, none] [.long s0] := by
  unfold b_T_numberOf_116 at hw
  exact z_lret C hr d_T_numberOf_116 hw
set_option maxRecDepth 100000 in
set_option maxHeartbeats 4000000 in
theorem w_T_numberOf_130 {l : Launch} {E : zE} {G : (Nat → Prop) → State → Prop} {p : Program} {e : Env} {s : State} {m : MethodId} {args : Array Value} {below : List Frame} {meth : Method} {c : Code} {A : Nat → Prop} {post : Int64 → zH → Prop} (hG : xGG E G) (C : zCx p s m args meth c E G A 1 23 prog_6_method_16_code 5 cn_T) (hr : meth.sig.returnType = (some .long))  (s0 : Int64) (h : zH) (hw : b_T_numberOf_130 post s0 h) : zGo p l e s m args below meth c E A 1 23 5 (zPl post) h 130 [none, none, none, none, none] [.long s0] := by
  unfold b_T_numberOf_130 at hw
  exact z_lret C hr d_T_numberOf_130 hw
set_option maxRecDepth 100000 in
set_option maxHeartbeats 4000000 in
theorem w_T_numberOf_148 {l : Launch} {E : zE} {G : (Nat → Prop) → State → Prop} {p : Program} {e : Env} {s : State} {m : MethodId} {args : Array Value} {below : List Frame} {meth : Method} {c : Code} {A : Nat → Prop} {post : Int64 → zH → Prop} (hG : xGG E G) (C : zCx p s m args meth c E G A 1 23 prog_6_method_16_code 5 cn_T) (hr : meth.sig.returnType = (some .long))  (h : zH) (hw : b_T_numberOf_148 post  h) : zGo p l e s m args below meth c E A 1 23 5 (zPl post) h 148 [none, none, none, none, none] [] := by
  unfold b_T_numberOf_148 at hw
  refine z_lconst C (v := 0) d_T_numberOf_148 (by decide) ?_
  exact z_lret C hr d_T_numberOf_149 hw
set_option maxRecDepth 100000 in
set_option maxHeartbeats 4000000 in
theorem t_T_numberOf {l : Launch} {E : zE} {G : (Nat → Prop) → State → Prop} (hG : xGG E G) {l0 : Int32} {l1 : Int64} {l3 : Int64} {h : zH} {post : Int64 → zH → Prop} (hw : wp_T_numberOf l0 l1 l3 h post) : Ct l xX E xcl xN zT G 1 23 y_T_numberOf prog_6_method_16_code 5 (some .long) [.int l0, .long l1, .long l3] h (zPl post) := by
  unfold wp_T_numberOf at hw
  refine Ct.of (by decide) (Nat.le_of_ble_eq_true rfl) ?_
  intro p e s m below meth c A C hr
  refine z_lv (lv2 := [some (.int l0), some (.long l1), none, some (.long l3), none]) rfl ?_
  refine z_iload_n C (i := 0) d_T_numberOf_0 rfl rfl ?_
  refine z_tcase C (off := 90) (tgt := 91) (9 : Int32) d_T_numberOf_1 (by decide) (by decide) rfl (by decide) (fun q0 => ?_) (fun q0 => ?_)
  · replace hw := hw.1 q0
    refine z_lload_n C (i := 1) d_T_numberOf_91 rfl rfl ?_
    refine z_lload_n C (i := 3) d_T_numberOf_92 rfl rfl ?_
    refine z_ladd C d_T_numberOf_93 ?_
    exact z_lret C hr d_T_numberOf_94 hw
  replace hw := hw.2 q0
  refine z_tcase C (off := 94) (tgt := 95) (10 : Int32) d_T_numberOf_1 (by decide) (by decide) rfl (by decide) (fun q1 => ?_) (fun q1 => ?_)
  · replace hw := hw.1 q1
    refine z_lload_n C (i := 1) d_T_numberOf_95 rfl rfl ?_
    refine z_lload_n C (i := 3) d_T_numberOf_96 rfl rfl ?_
    refine z_lsub C d_T_numberOf_97 ?_
    exact z_lret C hr d_T_numberOf_98 hw
  replace hw := hw.2 q1
  refine z_tcase C (off := 98) (tgt := 99) (11 : Int32) d_T_numberOf_1 (by decide) (by decide) rfl (by decide) (fun q2 => ?_) (fun q2 => ?_)
  · replace hw := hw.1 q2
    refine z_lload_n C (i := 1) d_T_numberOf_99 rfl rfl ?_
    refine z_lload_n C (i := 3) d_T_numberOf_100 rfl rfl ?_
    refine z_lmul C d_T_numberOf_101 ?_
    exact z_lret C hr d_T_numberOf_102 hw
  replace hw := hw.2 q2
  refine z_tcase C (off := 102) (tgt := 103) (12 : Int32) d_T_numberOf_1 (by decide) (by decide) rfl (by decide) (fun q3 => ?_) (fun q3 => ?_)
  · replace hw := hw.1 q3
    refine z_lload_n C (i := 3) d_T_numberOf_103 rfl rfl ?_
    refine z_lconst C (v := 0) d_T_numberOf_104 (by decide) ?_
    refine z_lcmp C d_T_numberOf_105 ?_
    refine z_if_ne C (tgt := 113) d_T_numberOf_106 (by decide) (fun q => ?_) (fun q => ?_)
    · replace hw := hw.1 q
      refine z_lload_n C (i := 1) d_T_numberOf_113 rfl rfl ?_
      refine z_lload_n C (i := 3) d_T_numberOf_114 rfl rfl ?_
      refine z_ldiv C d_T_numberOf_115 hw.1 ?_
      replace hw := hw.2
      refine z_le (lv2 := [none, none, none, none, none]) (trivial) ?_
      exact w_T_numberOf_116 hG C hr _ _ hw
    · replace hw := hw.2 q
      refine z_lconst C (v := 0) d_T_numberOf_109 (by decide) ?_
      refine z_goto C (tgt := 116) d_T_numberOf_110 (by decide) ?_
      refine z_le (lv2 := [none, none, none, none, none]) (trivial) ?_
      exact w_T_numberOf_116 hG C hr _ _ hw
  replace hw := hw.2 q3
  refine z_tcase C (off := 116) (tgt := 117) (13 : Int32) d_T_numberOf_1 (by decide) (by decide) rfl (by decide) (fun q4 => ?_) (fun q4 => ?_)
  · replace hw := hw.1 q4
    refine z_lload_n C (i := 3) d_T_numberOf_117 rfl rfl ?_
    refine z_lconst C (v := 0) d_T_numberOf_118 (by decide) ?_
    refine z_lcmp C d_T_numberOf_119 ?_
    refine z_if_ne C (tgt := 127) d_T_numberOf_120 (by decide) (fun q => ?_) (fun q => ?_)
    · replace hw := hw.1 q
      refine z_lload_n C (i := 1) d_T_numberOf_127 rfl rfl ?_
      refine z_lload_n C (i := 3) d_T_numberOf_128 rfl rfl ?_
      refine z_lrem C d_T_numberOf_129 hw.1 ?_
      replace hw := hw.2
      refine z_le (lv2 := [none, none, none, none, none]) (trivial) ?_
      exact w_T_numberOf_130 hG C hr _ _ hw
    · replace hw := hw.2 q
      refine z_lconst C (v := 0) d_T_numberOf_123 (by decide) ?_
      refine z_goto C (tgt := 130) d_T_numberOf_124 (by decide) ?_
      refine z_le (lv2 := [none, none, none, none, none]) (trivial) ?_
      exact w_T_numberOf_130 hG C hr _ _ hw
  replace hw := hw.2 q4
  refine z_tcase C (off := 147) (tgt := 148) (14 : Int32) d_T_numberOf_1 (by decide) (by decide) rfl (by decide) (fun q5 => ?_) (fun q5 => ?_)
  · replace hw := hw.1 q5
    refine z_le (lv2 := [none, none, none, none, none]) (trivial) ?_
    exact w_T_numberOf_148 hG C hr  _ hw
  replace hw := hw.2 q5
  refine z_tcase C (off := 147) (tgt := 148) (15 : Int32) d_T_numberOf_1 (by decide) (by decide) rfl (by decide) (fun q6 => ?_) (fun q6 => ?_)
  · replace hw := hw.1 q6
    refine z_le (lv2 := [none, none, none, none, none]) (trivial) ?_
    exact w_T_numberOf_148 hG C hr  _ hw
  replace hw := hw.2 q6
  refine z_tcase C (off := 147) (tgt := 148) (16 : Int32) d_T_numberOf_1 (by decide) (by decide) rfl (by decide) (fun q7 => ?_) (fun q7 => ?_)
  · replace hw := hw.1 q7
    refine z_le (lv2 := [none, none, none, none, none]) (trivial) ?_
    exact w_T_numberOf_148 hG C hr  _ hw
  replace hw := hw.2 q7
  refine z_tcase C (off := 147) (tgt := 148) (17 : Int32) d_T_numberOf_1 (by decide) (by decide) rfl (by decide) (fun q8 => ?_) (fun q8 => ?_)
  · replace hw := hw.1 q8
    refine z_le (lv2 := [none, none, none, none, none]) (trivial) ?_
    exact w_T_numberOf_148 hG C hr  _ hw
  replace hw := hw.2 q8
  refine z_tcase C (off := 147) (tgt := 148) (18 : Int32) d_T_numberOf_1 (by decide) (by decide) rfl (by decide) (fun q9 => ?_) (fun q9 => ?_)
  · replace hw := hw.1 q9
    refine z_le (lv2 := [none, none, none, none, none]) (trivial) ?_
    exact w_T_numberOf_148 hG C hr  _ hw
  replace hw := hw.2 q9
  refine z_tcase C (off := 147) (tgt := 148) (19 : Int32) d_T_numberOf_1 (by decide) (by decide) rfl (by decide) (fun q10 => ?_) (fun q10 => ?_)
  · replace hw := hw.1 q10
    refine z_le (lv2 := [none, none, none, none, none]) (trivial) ?_
    exact w_T_numberOf_148 hG C hr  _ hw
  replace hw := hw.2 q10
  refine z_tcase C (off := 147) (tgt := 148) (20 : Int32) d_T_numberOf_1 (by decide) (by decide) rfl (by decide) (fun q11 => ?_) (fun q11 => ?_)
  · replace hw := hw.1 q11
    refine z_le (lv2 := [none, none, none, none, none]) (trivial) ?_
    exact w_T_numberOf_148 hG C hr  _ hw
  replace hw := hw.2 q11
  refine z_tcase C (off := 147) (tgt := 148) (21 : Int32) d_T_numberOf_1 (by decide) (by decide) rfl (by decide) (fun q12 => ?_) (fun q12 => ?_)
  · replace hw := hw.1 q12
    refine z_le (lv2 := [none, none, none, none, none]) (trivial) ?_
    exact w_T_numberOf_148 hG C hr  _ hw
  replace hw := hw.2 q12
  refine z_tcase C (off := 147) (tgt := 148) (22 : Int32) d_T_numberOf_1 (by decide) (by decide) rfl (by decide) (fun q13 => ?_) (fun q13 => ?_)
  · replace hw := hw.1 q13
    refine z_le (lv2 := [none, none, none, none, none]) (trivial) ?_
    exact w_T_numberOf_148 hG C hr  _ hw
  replace hw := hw.2 q13
  refine z_tcase C (off := 130) (tgt := 131) (23 : Int32) d_T_numberOf_1 (by decide) (by decide) rfl (by decide) (fun q14 => ?_) (fun q14 => ?_)
  · replace hw := hw.1 q14
    refine z_lload_n C (i := 1) d_T_numberOf_131 rfl rfl ?_
    refine z_lload_n C (i := 3) d_T_numberOf_132 rfl rfl ?_
    refine z_mminL C ml_T_96 mk_Lib_MathLoose_min_long_s mk_ini mk_Lib_MathLoose_min_long_c (by decide) (Nat.le_of_ble_eq_true rfl) d_T_numberOf_133 ?_
    exact z_lret C hr d_T_numberOf_136 hw
  replace hw := hw.2 q14
  refine z_tcase C (off := 136) (tgt := 137) (24 : Int32) d_T_numberOf_1 (by decide) (by decide) rfl (by decide) (fun q15 => ?_) (fun q15 => ?_)
  · replace hw := hw.1 q15
    refine z_lload_n C (i := 1) d_T_numberOf_137 rfl rfl ?_
    refine z_lload_n C (i := 3) d_T_numberOf_138 rfl rfl ?_
    refine z_mmaxL C ml_T_100 mk_Lib_MathLoose_max_long_s mk_ini mk_Lib_MathLoose_max_long_c (by decide) (Nat.le_of_ble_eq_true rfl) d_T_numberOf_139 ?_
    exact z_lret C hr d_T_numberOf_142 hw
  replace hw := hw.2 q15
  refine z_tcase C (off := 142) (tgt := 143) (25 : Int32) d_T_numberOf_1 (by decide) (by decide) rfl (by decide) (fun q16 => ?_) (fun q16 => ?_)
  · replace hw := hw.1 q16
    refine z_lload_n C (i := 3) d_T_numberOf_143 rfl rfl ?_
    refine z_mabsL C ml_T_102 mk_Lib_MathLoose_abs_long_s mk_ini mk_Lib_MathLoose_abs_long_c (by decide) (Nat.le_of_ble_eq_true rfl) d_T_numberOf_144 ?_
    exact z_lret C hr d_T_numberOf_147 hw
  replace hw := hw.2 q16
  refine z_tcase C (off := 87) (tgt := 88) (26 : Int32) d_T_numberOf_1 (by decide) (by decide) rfl (by decide) (fun q17 => ?_) (fun q17 => ?_)
  · replace hw := hw.1 q17
    refine z_lload_n C (i := 3) d_T_numberOf_88 rfl rfl ?_
    refine z_lneg C d_T_numberOf_89 ?_
    exact z_lret C hr d_T_numberOf_90 hw
  replace hw := hw.2 q17
  refine z_tabOut C (tgt := 148) d_T_numberOf_1 (by have e0 := lv_neT q0 (a := 9) rfl; have e1 := lv_neT q1 (a := 10) rfl; have e2 := lv_neT q2 (a := 11) rfl; have e3 := lv_neT q3 (a := 12) rfl; have e4 := lv_neT q4 (a := 13) rfl; have e5 := lv_neT q5 (a := 14) rfl; have e6 := lv_neT q6 (a := 15) rfl; have e7 := lv_neT q7 (a := 16) rfl; have e8 := lv_neT q8 (a := 17) rfl; have e9 := lv_neT q9 (a := 18) rfl; have e10 := lv_neT q10 (a := 19) rfl; have e11 := lv_neT q11 (a := 20) rfl; have e12 := lv_neT q12 (a := 21) rfl; have e13 := lv_neT q13 (a := 22) rfl; have e14 := lv_neT q14 (a := 23) rfl; have e15 := lv_neT q15 (a := 24) rfl; have e16 := lv_neT q16 (a := 25) rfl; have e17 := lv_neT q17 (a := 26) rfl; omega) (by decide) ?_
  refine z_le (lv2 := [none, none, none, none, none]) (trivial) ?_
  exact w_T_numberOf_148 hG C hr  _ hw
theorem d_T_workedOut_0 : decode prog_6_method_14_code 0 = .ok (.aload_n 0, 1) := by decide +kernel
theorem d_T_workedOut_1 : decode prog_6_method_14_code 1 = .ok (.iload_n 1, 1) := by decide +kernel
theorem d_T_workedOut_2 : decode prog_6_method_14_code 2 = .ok (.invokevirtual 51, 3) := by decide +kernel
theorem d_T_workedOut_5 : decode prog_6_method_14_code 5 = .ok (.ifCond .eq (12), 3) := by decide +kernel
theorem d_T_workedOut_8 : decode prog_6_method_14_code 8 = .ok (.aload_n 0, 1) := by decide +kernel
theorem d_T_workedOut_9 : decode prog_6_method_14_code 9 = .ok (.getfield 39, 3) := by decide +kernel
theorem d_T_workedOut_12 : decode prog_6_method_14_code 12 = .ok (.iload_n 1, 1) := by decide +kernel
theorem d_T_workedOut_13 : decode prog_6_method_14_code 13 = .ok (.laload, 1) := by decide +kernel
theorem d_T_workedOut_14 : decode prog_6_method_14_code 14 = .ok (.goto (4), 3) := by decide +kernel
theorem d_T_workedOut_17 : decode prog_6_method_14_code 17 = .ok (.lconst 0, 1) := by decide +kernel
theorem d_T_workedOut_18 : decode prog_6_method_14_code 18 = .ok (.lreturn, 1) := by decide +kernel
def b_T_workedOut_18 (k : Nat) (post : Int64 → zH → Prop) (s0 : Int64) (h : zH) : Prop := post s0 h
def wp_T_workedOut (k : Nat) (l1 : Int32) (h : zH) (post : Int64 → zH → Prop) : Prop := xTm k ∧ wp_T_has k (l1) h (fun (r1 : Int32) (h2 : zH) => ((r1 = 0 → b_T_workedOut_18 k post (0) h2) ∧ (¬ r1 = 0 → (vp_in l1 100 ∧ b_T_workedOut_18 k post ((h2.2.1 (k + 10) (l1 : Int32).toNatClampNeg)) h2))))
set_option maxRecDepth 100000 in
set_option maxHeartbeats 4000000 in
theorem w_T_workedOut_18 {k : Nat} {l : Launch} {E : zE} {G : (Nat → Prop) → State → Prop} {p : Program} {e : Env} {s : State} {m : MethodId} {args : Array Value} {below : List Frame} {meth : Method} {c : Code} {A : Nat → Prop} {post : Int64 → zH → Prop} (hG : xGG E G) (C : zCx p s m args meth c E G A 1 21 prog_6_method_14_code 2 cn_T) (hr : meth.sig.returnType = (some .long)) (hk_k : xTm k)  (s0 : Int64) (h : zH) (hw : b_T_workedOut_18 k post s0 h) : zGo p l e s m args below meth c E A 1 21 2 (zPl post) h 18 [none, none] [.long s0] := by
  unfold b_T_workedOut_18 at hw
  exact z_lret C hr d_T_workedOut_18 hw
set_option maxRecDepth 100000 in
set_option maxHeartbeats 4000000 in
theorem t_T_workedOut {l : Launch} {E : zE} {G : (Nat → Prop) → State → Prop} (hG : xGG E G) {k : Nat} {l1 : Int32} {h : zH} {post : Int64 → zH → Prop} (hw : wp_T_workedOut k l1 h post) : Ct l xX E xcl xN zT G 1 21 y_T_workedOut prog_6_method_14_code 2 (some .long) [.ref (E.2.2.1 k), .int l1] h (zPl post) := by
  unfold wp_T_workedOut at hw
  obtain ⟨hk_k, hw⟩ := hw
  refine Ct.of (by decide) (Nat.le_of_ble_eq_true rfl) ?_
  intro p e s m below meth c A C hr
  refine z_lv (lv2 := [some (.ref (E.2.2.1 k)), some (.int l1)]) rfl ?_
  refine z_aload_n C (i := 0) d_T_workedOut_0 rfl rfl ?_
  refine z_iload_n C (i := 1) d_T_workedOut_1 rfl rfl ?_
  refine z_callVi ⟨xN_ok, hG.1⟩ zT_good C (t_T_has hG hw) ol_T_51 (xTm_l0 hk_k) (xTm_0 hk_k) rfl (by decide) (by decide) pl_T_has rfl rfl (Nat.le_of_ble_eq_true rfl) d_T_workedOut_2 (fun r1 h2 hw => ?_)
  refine z_if_eq C (tgt := 17) d_T_workedOut_5 (by decide) (fun q => ?_) (fun q => ?_)
  · replace hw := hw.1 q
    refine z_lconst C (v := 0) d_T_workedOut_17 (by decide) ?_
    refine z_le (lv2 := [none, none]) (trivial) ?_
    exact w_T_workedOut_18 hG C hr hk_k _ _ hw
  · replace hw := hw.2 q
    refine z_aload_n C (i := 0) d_T_workedOut_8 rfl rfl ?_
    refine z_getK C (ci := 3) (j := 9) (F := cf_T) (xTm_l0 hk_k) (xTm_0 hk_k) rfl in_T (by decide) fl_T_39 rfl d_T_workedOut_9 ?_
    refine z_iload_n C (i := 1) d_T_workedOut_12 rfl rfl ?_
    refine z_lald C (xTm_l hk_k (by decide)) (xTm_10 hk_k) hw.1 d_T_workedOut_13 ?_
    replace hw := hw.2
    refine z_goto C (tgt := 18) d_T_workedOut_14 (by decide) ?_
    refine z_le (lv2 := [none, none]) (trivial) ?_
    exact w_T_workedOut_18 hG C hr hk_k _ _ hw
theorem d_V_worthOf_0 : decode prog_8_method_7_code 0 = .ok (.aload_n 0, 1) := by decide +kernel
theorem d_V_worthOf_1 : decode prog_8_method_7_code 1 = .ok (.getfield 18, 3) := by decide +kernel
theorem d_V_worthOf_4 : decode prog_8_method_7_code 4 = .ok (.iload_n 1, 1) := by decide +kernel
theorem d_V_worthOf_5 : decode prog_8_method_7_code 5 = .ok (.invokestatic 40, 3) := by decide +kernel
theorem d_V_worthOf_8 : decode prog_8_method_7_code 8 = .ok (.ireturn, 1) := by decide +kernel
def wp_V_worthOf (l1 : Int32) (h : zH) (post : Int32 → zH → Prop) : Prop := wp_R_at 4 20 (l1) h (fun (r1 : Int32) (h2 : zH) => post r1 h2)
set_option maxRecDepth 100000 in
set_option maxHeartbeats 4000000 in
theorem t_V_worthOf {l : Launch} {E : zE} {G : (Nat → Prop) → State → Prop} (hG : xGG E G) {l1 : Int32} {h : zH} {post : Int32 → zH → Prop} (hw : wp_V_worthOf l1 h post) : Ct l xX E xcl xN zT G 1 21 y_V_worthOf prog_8_method_7_code 2 (some .int) [.ref (E.2.2.1 1), .int l1] h (zPi post) := by
  unfold wp_V_worthOf at hw
  refine Ct.of (by decide) (Nat.le_of_ble_eq_true rfl) ?_
  intro p e s m below meth c A C hr
  refine z_lv (lv2 := [some (.ref (E.2.2.1 1)), some (.int l1)]) rfl ?_
  refine z_aload_n C (i := 0) d_V_worthOf_0 rfl rfl ?_
  refine z_getS C (ci := 1) (j := 2) (F := cf_V) (by decide) rfl rfl in_V (by decide) fl_V_18 rfl d_V_worthOf_1 ?_
  refine z_iload_n C (i := 1) d_V_worthOf_4 rfl rfl ?_
  refine z_callSNi ⟨xN_ok, hG.1⟩ zT_good C (t_R_at hG hw) wn_R_at nl_V_40 (by decide) (by decide) pl_R_at rfl rfl (Nat.le_of_ble_eq_true rfl) d_V_worthOf_5 (fun r1 h2 hw => ?_)
  exact z_iret C hr d_V_worthOf_8 hw
theorem d_T_work_0 : decode prog_6_method_15_code 0 = .ok (.aload_n 0, 1) := by decide +kernel
theorem d_T_work_1 : decode prog_6_method_15_code 1 = .ok (.getfield 9, 3) := by decide +kernel
theorem d_T_work_4 : decode prog_6_method_15_code 4 = .ok (.iload_n 1, 1) := by decide +kernel
theorem d_T_work_5 : decode prog_6_method_15_code 5 = .ok (.invokestatic 47, 3) := by decide +kernel
theorem d_T_work_8 : decode prog_6_method_15_code 8 = .ok (.istore_n 3, 1) := by decide +kernel
theorem d_T_work_9 : decode prog_6_method_15_code 9 = .ok (.aload_n 0, 1) := by decide +kernel
theorem d_T_work_10 : decode prog_6_method_15_code 10 = .ok (.aload_n 0, 1) := by decide +kernel
theorem d_T_work_11 : decode prog_6_method_15_code 11 = .ok (.getfield 27, 3) := by decide +kernel
theorem d_T_work_14 : decode prog_6_method_15_code 14 = .ok (.iload_n 1, 1) := by decide +kernel
theorem d_T_work_15 : decode prog_6_method_15_code 15 = .ok (.invokestatic 47, 3) := by decide +kernel
theorem d_T_work_18 : decode prog_6_method_15_code 18 = .ok (.invokevirtual 73, 3) := by decide +kernel
theorem d_T_work_21 : decode prog_6_method_15_code 21 = .ok (.lstore 4, 2) := by decide +kernel
theorem d_T_work_23 : decode prog_6_method_15_code 23 = .ok (.aload_n 0, 1) := by decide +kernel
theorem d_T_work_24 : decode prog_6_method_15_code 24 = .ok (.aload_n 0, 1) := by decide +kernel
theorem d_T_work_25 : decode prog_6_method_15_code 25 = .ok (.getfield 30, 3) := by decide +kernel
theorem d_T_work_28 : decode prog_6_method_15_code 28 = .ok (.iload_n 1, 1) := by decide +kernel
theorem d_T_work_29 : decode prog_6_method_15_code 29 = .ok (.invokestatic 47, 3) := by decide +kernel
theorem d_T_work_32 : decode prog_6_method_15_code 32 = .ok (.invokevirtual 73, 3) := by decide +kernel
theorem d_T_work_35 : decode prog_6_method_15_code 35 = .ok (.lstore 6, 2) := by decide +kernel
theorem d_T_work_37 : decode prog_6_method_15_code 37 = .ok (.iload_n 3, 1) := by decide +kernel
theorem d_T_work_38 : decode prog_6_method_15_code 38 = .ok (.lookupswitch (80) #[(2, 34), (3, 41), (7, 55)], 34) := by decide +kernel
theorem d_T_work_72 : decode prog_6_method_15_code 72 = .ok (.aload_n 0, 1) := by decide +kernel
theorem d_T_work_73 : decode prog_6_method_15_code 73 = .ok (.iload_n 1, 1) := by decide +kernel
theorem d_T_work_74 : decode prog_6_method_15_code 74 = .ok (.invokevirtual 77, 3) := by decide +kernel
theorem d_T_work_77 : decode prog_6_method_15_code 77 = .ok (.i2l, 1) := by decide +kernel
theorem d_T_work_78 : decode prog_6_method_15_code 78 = .ok (.lreturn, 1) := by decide +kernel
theorem d_T_work_79 : decode prog_6_method_15_code 79 = .ok (.aload_n 2, 1) := by decide +kernel
theorem d_T_work_80 : decode prog_6_method_15_code 80 = .ok (.aload_n 0, 1) := by decide +kernel
theorem d_T_work_81 : decode prog_6_method_15_code 81 = .ok (.getfield 33, 3) := by decide +kernel
theorem d_T_work_84 : decode prog_6_method_15_code 84 = .ok (.iload_n 1, 1) := by decide +kernel
theorem d_T_work_85 : decode prog_6_method_15_code 85 = .ok (.invokestatic 47, 3) := by decide +kernel
theorem d_T_work_88 : decode prog_6_method_15_code 88 = .ok (.invokevirtual 80, 3) := by decide +kernel
theorem d_T_work_91 : decode prog_6_method_15_code 91 = .ok (.i2l, 1) := by decide +kernel
theorem d_T_work_92 : decode prog_6_method_15_code 92 = .ok (.lreturn, 1) := by decide +kernel
theorem d_T_work_93 : decode prog_6_method_15_code 93 = .ok (.aload_n 0, 1) := by decide +kernel
theorem d_T_work_94 : decode prog_6_method_15_code 94 = .ok (.aload_n 0, 1) := by decide +kernel
theorem d_T_work_95 : decode prog_6_method_15_code 95 = .ok (.getfield 33, 3) := by decide +kernel
theorem d_T_work_98 : decode prog_6_method_15_code 98 = .ok (.iload_n 1, 1) := by decide +kernel
theorem d_T_work_99 : decode prog_6_method_15_code 99 = .ok (.invokestatic 47, 3) := by decide +kernel
theorem d_T_work_102 : decode prog_6_method_15_code 102 = .ok (.invokevirtual 73, 3) := by decide +kernel
theorem d_T_work_105 : decode prog_6_method_15_code 105 = .ok (.lconst 0, 1) := by decide +kernel
theorem d_T_work_106 : decode prog_6_method_15_code 106 = .ok (.lcmp, 1) := by decide +kernel
theorem d_T_work_107 : decode prog_6_method_15_code 107 = .ok (.ifCond .eq (8), 3) := by decide +kernel
theorem d_T_work_110 : decode prog_6_method_15_code 110 = .ok (.lload 4, 2) := by decide +kernel
theorem d_T_work_112 : decode prog_6_method_15_code 112 = .ok (.goto (5), 3) := by decide +kernel
theorem d_T_work_115 : decode prog_6_method_15_code 115 = .ok (.lload 6, 2) := by decide +kernel
theorem d_T_work_117 : decode prog_6_method_15_code 117 = .ok (.lreturn, 1) := by decide +kernel
theorem d_T_work_118 : decode prog_6_method_15_code 118 = .ok (.aload_n 0, 1) := by decide +kernel
theorem d_T_work_119 : decode prog_6_method_15_code 119 = .ok (.iload_n 1, 1) := by decide +kernel
theorem d_T_work_120 : decode prog_6_method_15_code 120 = .ok (.invokevirtual 85, 3) := by decide +kernel
theorem d_T_work_123 : decode prog_6_method_15_code 123 = .ok (.ifCond .ne (12), 3) := by decide +kernel
theorem d_T_work_126 : decode prog_6_method_15_code 126 = .ok (.iload_n 3, 1) := by decide +kernel
theorem d_T_work_127 : decode prog_6_method_15_code 127 = .ok (.lload 4, 2) := by decide +kernel
theorem d_T_work_129 : decode prog_6_method_15_code 129 = .ok (.lload 6, 2) := by decide +kernel
theorem d_T_work_131 : decode prog_6_method_15_code 131 = .ok (.invokestatic 88, 3) := by decide +kernel
theorem d_T_work_134 : decode prog_6_method_15_code 134 = .ok (.lreturn, 1) := by decide +kernel
theorem d_T_work_135 : decode prog_6_method_15_code 135 = .ok (.iload_n 3, 1) := by decide +kernel
theorem d_T_work_136 : decode prog_6_method_15_code 136 = .ok (.lload 4, 2) := by decide +kernel
theorem d_T_work_138 : decode prog_6_method_15_code 138 = .ok (.lload 6, 2) := by decide +kernel
theorem d_T_work_140 : decode prog_6_method_15_code 140 = .ok (.invokestatic 92, 3) := by decide +kernel
theorem d_T_work_143 : decode prog_6_method_15_code 143 = .ok (.ifCond .eq (7), 3) := by decide +kernel
theorem d_T_work_146 : decode prog_6_method_15_code 146 = .ok (.lconst 1, 1) := by decide +kernel
theorem d_T_work_147 : decode prog_6_method_15_code 147 = .ok (.goto (4), 3) := by decide +kernel
theorem d_T_work_150 : decode prog_6_method_15_code 150 = .ok (.lconst 0, 1) := by decide +kernel
theorem d_T_work_151 : decode prog_6_method_15_code 151 = .ok (.lreturn, 1) := by decide +kernel
def b_T_work_117 (k : Nat) (post : Int64 → zH → Prop) (s0 : Int64) (h : zH) : Prop := post s0 h
def b_T_work_151 (k : Nat) (post : Int64 → zH → Prop) (s0 : Int64) (h : zH) : Prop := post s0 h
def wp_T_work (k : Nat) (l1 : Int32) (h : zH) (post : Int64 → zH → Prop) : Prop := xTm k ∧ wp_R_at (k + 1) 100 (l1) h (fun (r1 : Int32) (h2 : zH) => wp_R_at (k + 6) 100 (l1) h2 (fun (r3 : Int32) (h4 : zH) => wp_T_workedOut k (r3) h4 (fun (r5 : Int64) (h6 : zH) => wp_R_at (k + 7) 100 (l1) h6 (fun (r7 : Int32) (h8 : zH) => wp_T_workedOut k (r7) h8 (fun (r9 : Int64) (h10 : zH) => ((r1 = 2 → wp_T_lowOf k (l1) h10 (fun (r11 : Int32) (h12 : zH) => post (r11 : Int32).toInt64 h12)) ∧ (¬ r1 = 2 → ((r1 = 3 → wp_R_at (k + 8) 100 (l1) h10 (fun (r13 : Int32) (h14 : zH) => wp_V_worthOf (r13) h14 (fun (r15 : Int32) (h16 : zH) => post (r15 : Int32).toInt64 h16))) ∧ (¬ r1 = 3 → ((r1 = 7 → wp_R_at (k + 8) 100 (l1) h10 (fun (r17 : Int32) (h18 : zH) => wp_T_workedOut k (r17) h18 (fun (r19 : Int64) (h20 : zH) => (((lg_cmp r19 0) = 0 → b_T_work_117 k post (r9) h20) ∧ (¬ (lg_cmp r19 0) = 0 → b_T_work_117 k post (r5) h20))))) ∧ (¬ r1 = 7 → wp_T_kindOf k (l1) h10 (fun (r21 : Int32) (h22 : zH) => ((¬ r21 = 0 → wp_T_isTrue (r1) (r5) (r9) h22 (fun (r23 : Int32) (h24 : zH) => ((r23 = 0 → b_T_work_151 k post (0) h24) ∧ (¬ r23 = 0 → b_T_work_151 k post (1) h24)))) ∧ (r21 = 0 → wp_T_numberOf (r1) (r5) (r9) h22 (fun (r25 : Int64) (h26 : zH) => post r25 h26)))))))))))))))
set_option maxRecDepth 100000 in
set_option maxHeartbeats 4000000 in
theorem w_T_work_117 {k : Nat} {l : Launch} {E : zE} {G : (Nat → Prop) → State → Prop} {p : Program} {e : Env} {s : State} {m : MethodId} {args : Array Value} {below : List Frame} {meth : Method} {c : Code} {A : Nat → Prop} {post : Int64 → zH → Prop} (hG : xGG E G) (C : zCx p s m args meth c E G A 2 47 prog_6_method_15_code 8 cn_T) (hr : meth.sig.returnType = (some .long)) (hk_k : xTm k)  (s0 : Int64) (h : zH) (hw : b_T_work_117 k post s0 h) : zGo p l e s m args below meth c E A 2 47 8 (zPl post) h 117 [none, none, none, none, none, none, none, none] [.long s0] := by
  unfold b_T_work_117 at hw
  exact z_lret C hr d_T_work_117 hw
set_option maxRecDepth 100000 in
set_option maxHeartbeats 4000000 in
theorem w_T_work_151 {k : Nat} {l : Launch} {E : zE} {G : (Nat → Prop) → State → Prop} {p : Program} {e : Env} {s : State} {m : MethodId} {args : Array Value} {below : List Frame} {meth : Method} {c : Code} {A : Nat → Prop} {post : Int64 → zH → Prop} (hG : xGG E G) (C : zCx p s m args meth c E G A 2 47 prog_6_method_15_code 8 cn_T) (hr : meth.sig.returnType = (some .long)) (hk_k : xTm k)  (s0 : Int64) (h : zH) (hw : b_T_work_151 k post s0 h) : zGo p l e s m args below meth c E A 2 47 8 (zPl post) h 151 [none, none, none, none, none, none, none, none] [.long s0] := by
  unfold b_T_work_151 at hw
  exact z_lret C hr d_T_work_151 hw
set_option maxRecDepth 100000 in
set_option maxHeartbeats 4000000 in
theorem t_T_work {l : Launch} {E : zE} {G : (Nat → Prop) → State → Prop} (hG : xGG E G) {k : Nat} {l1 : Int32} {h : zH} {post : Int64 → zH → Prop} (hw : wp_T_work k l1 h post) : Ct l xX E xcl xN zT G 2 47 y_T_work prog_6_method_15_code 8 (some .long) [.ref (E.2.2.1 k), .int l1, .ref (E.2.2.1 1)] h (zPl post) := by
  unfold wp_T_work at hw
  obtain ⟨hk_k, hw⟩ := hw
  refine Ct.of (by decide) (Nat.le_of_ble_eq_true rfl) ?_
  intro p e s m below meth c A C hr
  refine z_lv (lv2 := [some (.ref (E.2.2.1 k)), some (.int l1), some (.ref (E.2.2.1 1)), none, none, none, none, none]) rfl ?_
  refine z_aload_n C (i := 0) d_T_work_0 rfl rfl ?_
  refine z_getK C (ci := 3) (j := 0) (F := cf_T) (xTm_l0 hk_k) (xTm_0 hk_k) rfl in_T (by decide) fl_T_9 rfl d_T_work_1 ?_
  refine z_iload_n C (i := 1) d_T_work_4 rfl rfl ?_
  refine z_callSNi ⟨xN_ok, hG.1⟩ zT_good C (t_R_at hG hw) wn_R_at nl_T_47 (by decide) (by decide) pl_R_at rfl rfl (Nat.le_of_ble_eq_true rfl) d_T_work_5 (fun r1 h2 hw => ?_)
  refine z_istore_n C (i := 3) d_T_work_8 rfl (by decide) rfl ?_
  refine z_aload_n C (i := 0) d_T_work_9 rfl rfl ?_
  refine z_aload_n C (i := 0) d_T_work_10 rfl rfl ?_
  refine z_getK C (ci := 3) (j := 5) (F := cf_T) (xTm_l0 hk_k) (xTm_0 hk_k) rfl in_T (by decide) fl_T_27 rfl d_T_work_11 ?_
  refine z_iload_n C (i := 1) d_T_work_14 rfl rfl ?_
  refine z_callSNi ⟨xN_ok, hG.1⟩ zT_good C (t_R_at hG hw) wn_R_at nl_T_47 (by decide) (by decide) pl_R_at rfl rfl (Nat.le_of_ble_eq_true rfl) d_T_work_15 (fun r3 h4 hw => ?_)
  refine z_callVl ⟨xN_ok, hG.1⟩ zT_good C (t_T_workedOut hG hw) ol_T_73 (xTm_l0 hk_k) (xTm_0 hk_k) rfl (by decide) (by decide) pl_T_workedOut rfl rfl (Nat.le_of_ble_eq_true rfl) d_T_work_18 (fun r5 h6 hw => ?_)
  refine z_lstore C d_T_work_21 (by decide) rfl ?_
  refine z_aload_n C (i := 0) d_T_work_23 rfl rfl ?_
  refine z_aload_n C (i := 0) d_T_work_24 rfl rfl ?_
  refine z_getK C (ci := 3) (j := 6) (F := cf_T) (xTm_l0 hk_k) (xTm_0 hk_k) rfl in_T (by decide) fl_T_30 rfl d_T_work_25 ?_
  refine z_iload_n C (i := 1) d_T_work_28 rfl rfl ?_
  refine z_callSNi ⟨xN_ok, hG.1⟩ zT_good C (t_R_at hG hw) wn_R_at nl_T_47 (by decide) (by decide) pl_R_at rfl rfl (Nat.le_of_ble_eq_true rfl) d_T_work_29 (fun r7 h8 hw => ?_)
  refine z_callVl ⟨xN_ok, hG.1⟩ zT_good C (t_T_workedOut hG hw) ol_T_73 (xTm_l0 hk_k) (xTm_0 hk_k) rfl (by decide) (by decide) pl_T_workedOut rfl rfl (Nat.le_of_ble_eq_true rfl) d_T_work_32 (fun r9 h10 hw => ?_)
  refine z_lstore C d_T_work_35 (by decide) rfl ?_
  refine z_iload_n C (i := 3) d_T_work_37 rfl rfl ?_
  refine z_lcase C (off := 34) (tgt := 72) (2 : Int32) d_T_work_38 (by decide) (by decide) (by decide) (fun q0 => ?_) (fun q0 => ?_)
  · replace hw := hw.1 q0
    refine z_aload_n C (i := 0) d_T_work_72 rfl rfl ?_
    refine z_iload_n C (i := 1) d_T_work_73 rfl rfl ?_
    refine z_callVi ⟨xN_ok, hG.1⟩ zT_good C (t_T_lowOf hG hw) ol_T_77 (xTm_l0 hk_k) (xTm_0 hk_k) rfl (by decide) (by decide) pl_T_lowOf rfl rfl (Nat.le_of_ble_eq_true rfl) d_T_work_74 (fun r11 h12 hw => ?_)
    refine z_i2l C d_T_work_77 ?_
    exact z_lret C hr d_T_work_78 hw
  replace hw := hw.2 q0
  refine z_lcase C (off := 41) (tgt := 79) (3 : Int32) d_T_work_38 (by decide) (by decide) (by decide) (fun q1 => ?_) (fun q1 => ?_)
  · replace hw := hw.1 q1
    refine z_aload_n C (i := 2) d_T_work_79 rfl rfl ?_
    refine z_aload_n C (i := 0) d_T_work_80 rfl rfl ?_
    refine z_getK C (ci := 3) (j := 7) (F := cf_T) (xTm_l0 hk_k) (xTm_0 hk_k) rfl in_T (by decide) fl_T_33 rfl d_T_work_81 ?_
    refine z_iload_n C (i := 1) d_T_work_84 rfl rfl ?_
    refine z_callSNi ⟨xN_ok, hG.1⟩ zT_good C (t_R_at hG hw) wn_R_at nl_T_47 (by decide) (by decide) pl_R_at rfl rfl (Nat.le_of_ble_eq_true rfl) d_T_work_85 (fun r13 h14 hw => ?_)
    refine z_callVNi ⟨xN_ok, hG.1⟩ zT_good C (t_V_worthOf hG hw) wn_V_worthOf nl_T_80 (by decide) rfl rfl (by decide) (by decide) pl_V_worthOf rfl rfl (Nat.le_of_ble_eq_true rfl) d_T_work_88 (fun r15 h16 hw => ?_)
    refine z_i2l C d_T_work_91 ?_
    exact z_lret C hr d_T_work_92 hw
  replace hw := hw.2 q1
  refine z_lcase C (off := 55) (tgt := 93) (7 : Int32) d_T_work_38 (by decide) (by decide) (by decide) (fun q2 => ?_) (fun q2 => ?_)
  · replace hw := hw.1 q2
    refine z_aload_n C (i := 0) d_T_work_93 rfl rfl ?_
    refine z_aload_n C (i := 0) d_T_work_94 rfl rfl ?_
    refine z_getK C (ci := 3) (j := 7) (F := cf_T) (xTm_l0 hk_k) (xTm_0 hk_k) rfl in_T (by decide) fl_T_33 rfl d_T_work_95 ?_
    refine z_iload_n C (i := 1) d_T_work_98 rfl rfl ?_
    refine z_callSNi ⟨xN_ok, hG.1⟩ zT_good C (t_R_at hG hw) wn_R_at nl_T_47 (by decide) (by decide) pl_R_at rfl rfl (Nat.le_of_ble_eq_true rfl) d_T_work_99 (fun r17 h18 hw => ?_)
    refine z_callVl ⟨xN_ok, hG.1⟩ zT_good C (t_T_workedOut hG hw) ol_T_73 (xTm_l0 hk_k) (xTm_0 hk_k) rfl (by decide) (by decide) pl_T_workedOut rfl rfl (Nat.le_of_ble_eq_true rfl) d_T_work_102 (fun r19 h20 hw => ?_)
    refine z_lconst C (v := 0) d_T_work_105 (by decide) ?_
    refine z_lcmp C d_T_work_106 ?_
    refine z_if_eq C (tgt := 115) d_T_work_107 (by decide) (fun q => ?_) (fun q => ?_)
    · replace hw := hw.1 q
      refine z_lload C d_T_work_115 rfl ?_
      refine z_le (lv2 := [none, none, none, none, none, none, none, none]) (trivial) ?_
      exact w_T_work_117 hG C hr hk_k _ _ hw
    · replace hw := hw.2 q
      refine z_lload C d_T_work_110 rfl ?_
      refine z_goto C (tgt := 117) d_T_work_112 (by decide) ?_
      refine z_le (lv2 := [none, none, none, none, none, none, none, none]) (trivial) ?_
      exact w_T_work_117 hG C hr hk_k _ _ hw
  replace hw := hw.2 q2
  refine z_lookup C (off := 80) (tgt := 118) d_T_work_38 (by decide) (by show Op.lookupswitch.offset [(2, 34), (3, 41), (7, 55)] (80) _ = (80); rw [lv_osw q0 (a := 2) rfl, lv_osw q1 (a := 3) rfl, lv_osw q2 (a := 7) rfl]; rfl) (by decide) ?_
  refine z_aload_n C (i := 0) d_T_work_118 rfl rfl ?_
  refine z_iload_n C (i := 1) d_T_work_119 rfl rfl ?_
  refine z_callVi ⟨xN_ok, hG.1⟩ zT_good C (t_T_kindOf hG hw) ol_T_85 (xTm_l0 hk_k) (xTm_0 hk_k) rfl (by decide) (by decide) pl_T_kindOf rfl rfl (Nat.le_of_ble_eq_true rfl) d_T_work_120 (fun r21 h22 hw => ?_)
  refine z_if_ne C (tgt := 135) d_T_work_123 (by decide) (fun q => ?_) (fun q => ?_)
  · replace hw := hw.1 q
    refine z_iload_n C (i := 3) d_T_work_135 rfl rfl ?_
    refine z_lload C d_T_work_136 rfl ?_
    refine z_lload C d_T_work_138 rfl ?_
    refine z_callSi ⟨xN_ok, hG.1⟩ zT_good C (t_T_isTrue hG hw) ol_T_92 (by decide) (by decide) pl_T_isTrue rfl rfl (Nat.le_of_ble_eq_true rfl) d_T_work_140 (fun r23 h24 hw => ?_)
    refine z_if_eq C (tgt := 150) d_T_work_143 (by decide) (fun q => ?_) (fun q => ?_)
    · replace hw := hw.1 q
      refine z_lconst C (v := 0) d_T_work_150 (by decide) ?_
      refine z_le (lv2 := [none, none, none, none, none, none, none, none]) (trivial) ?_
      exact w_T_work_151 hG C hr hk_k _ _ hw
    · replace hw := hw.2 q
      refine z_lconst C (v := 1) d_T_work_146 (by decide) ?_
      refine z_goto C (tgt := 151) d_T_work_147 (by decide) ?_
      refine z_le (lv2 := [none, none, none, none, none, none, none, none]) (trivial) ?_
      exact w_T_work_151 hG C hr hk_k _ _ hw
  · replace hw := hw.2 q
    refine z_iload_n C (i := 3) d_T_work_126 rfl rfl ?_
    refine z_lload C d_T_work_127 rfl ?_
    refine z_lload C d_T_work_129 rfl ?_
    refine z_callSl ⟨xN_ok, hG.1⟩ zT_good C (t_T_numberOf hG hw) ol_T_88 (by decide) (by decide) pl_T_numberOf rfl rfl (Nat.le_of_ble_eq_true rfl) d_T_work_131 (fun r25 h26 hw => ?_)
    exact z_lret C hr d_T_work_134 hw
theorem d_T_worthOf_0 : decode prog_6_method_13_code 0 = .ok (.iconst 0, 1) := by decide +kernel
theorem d_T_worthOf_1 : decode prog_6_method_13_code 1 = .ok (.istore_n 3, 1) := by decide +kernel
theorem d_T_worthOf_2 : decode prog_6_method_13_code 2 = .ok (.iload_n 3, 1) := by decide +kernel
theorem d_T_worthOf_3 : decode prog_6_method_13_code 3 = .ok (.iload_n 1, 1) := by decide +kernel
theorem d_T_worthOf_4 : decode prog_6_method_13_code 4 = .ok (.if_icmp .gt (29), 3) := by decide +kernel
theorem d_T_worthOf_7 : decode prog_6_method_13_code 7 = .ok (.aload_n 0, 1) := by decide +kernel
theorem d_T_worthOf_8 : decode prog_6_method_13_code 8 = .ok (.iload_n 3, 1) := by decide +kernel
theorem d_T_worthOf_9 : decode prog_6_method_13_code 9 = .ok (.invokevirtual 51, 3) := by decide +kernel
theorem d_T_worthOf_12 : decode prog_6_method_13_code 12 = .ok (.ifCond .eq (21), 3) := by decide +kernel
theorem d_T_worthOf_15 : decode prog_6_method_13_code 15 = .ok (.aload_n 0, 1) := by decide +kernel
theorem d_T_worthOf_16 : decode prog_6_method_13_code 16 = .ok (.getfield 39, 3) := by decide +kernel
theorem d_T_worthOf_19 : decode prog_6_method_13_code 19 = .ok (.iload_n 3, 1) := by decide +kernel
theorem d_T_worthOf_20 : decode prog_6_method_13_code 20 = .ok (.aload_n 0, 1) := by decide +kernel
theorem d_T_worthOf_21 : decode prog_6_method_13_code 21 = .ok (.iload_n 3, 1) := by decide +kernel
theorem d_T_worthOf_22 : decode prog_6_method_13_code 22 = .ok (.aload_n 2, 1) := by decide +kernel
theorem d_T_worthOf_23 : decode prog_6_method_13_code 23 = .ok (.invokevirtual 69, 3) := by decide +kernel
theorem d_T_worthOf_26 : decode prog_6_method_13_code 26 = .ok (.lastore, 1) := by decide +kernel
theorem d_T_worthOf_27 : decode prog_6_method_13_code 27 = .ok (.iinc 3 (1), 3) := by decide +kernel
theorem d_T_worthOf_30 : decode prog_6_method_13_code 30 = .ok (.goto (-28), 3) := by decide +kernel
theorem d_T_worthOf_33 : decode prog_6_method_13_code 33 = .ok (.aload_n 0, 1) := by decide +kernel
theorem d_T_worthOf_34 : decode prog_6_method_13_code 34 = .ok (.iload_n 1, 1) := by decide +kernel
theorem d_T_worthOf_35 : decode prog_6_method_13_code 35 = .ok (.invokevirtual 73, 3) := by decide +kernel
theorem d_T_worthOf_38 : decode prog_6_method_13_code 38 = .ok (.lreturn, 1) := by decide +kernel
def b_T_worthOf_33 (k : Nat) (post : Int64 → zH → Prop) (l1 : Int32) (h : zH) : Prop := wp_T_workedOut k (l1) h (fun (r1 : Int64) (h2 : zH) => post r1 h2)
def b_T_worthOf_2 (k : Nat) (post : Int64 → zH → Prop) : Nat → Int32 → Int32 → zH → Prop
  | 0, _, _, _ => False
  | n + 1, l1, l3, h => (fun rc : Int32 → Int32 → zH → Prop => ((l1 < l3 → b_T_worthOf_33 k post (l1) h) ∧ (¬ l1 < l3 → wp_T_has k (l3) h (fun (r3 : Int32) (h4 : zH) => ((r3 = 0 → b_T_worthOf_33 k post (l1) h4) ∧ (¬ r3 = 0 → wp_T_work k (l3) h4 (fun (r5 : Int64) (h6 : zH) => (vp_in l3 100 ∧ ∀ h7 : zH, h7 = zl h6 (k + 10) (l3 : Int32).toNatClampNeg r5 → rc (l1) ((l3 + 1)) h7)))))))) (b_T_worthOf_2 k post n)
def wp_T_worthOf (k : Nat) (l1 : Int32) (h : zH) (post : Int64 → zH → Prop) : Prop := xTm k ∧ (∃ n : Nat, b_T_worthOf_2 k post n (l1) (0) h)
set_option maxRecDepth 100000 in
set_option maxHeartbeats 4000000 in
theorem w_T_worthOf_33 {k : Nat} {l : Launch} {E : zE} {G : (Nat → Prop) → State → Prop} {p : Program} {e : Env} {s : State} {m : MethodId} {args : Array Value} {below : List Frame} {meth : Method} {c : Code} {A : Nat → Prop} {post : Int64 → zH → Prop} (hG : xGG E G) (C : zCx p s m args meth c E G A 3 74 prog_6_method_13_code 4 cn_T) (hr : meth.sig.returnType = (some .long)) (hk_k : xTm k)  (l1 : Int32) (h : zH) (hw : b_T_worthOf_33 k post l1 h) : zGo p l e s m args below meth c E A 3 74 4 (zPl post) h 33 [some (.ref (E.2.2.1 k)), some (.int l1), none, none] [] := by
  unfold b_T_worthOf_33 at hw
  refine z_aload_n C (i := 0) d_T_worthOf_33 rfl rfl ?_
  refine z_iload_n C (i := 1) d_T_worthOf_34 rfl rfl ?_
  refine z_callVl ⟨xN_ok, hG.1⟩ zT_good C (t_T_workedOut hG hw) ol_T_73 (xTm_l0 hk_k) (xTm_0 hk_k) rfl (by decide) (by decide) pl_T_workedOut rfl rfl (Nat.le_of_ble_eq_true rfl) d_T_worthOf_35 (fun r1 h2 hw => ?_)
  exact z_lret C hr d_T_worthOf_38 hw
set_option maxRecDepth 100000 in
set_option maxHeartbeats 4000000 in
theorem w_T_worthOf_2 {k : Nat} {l : Launch} {E : zE} {G : (Nat → Prop) → State → Prop} {p : Program} {e : Env} {s : State} {m : MethodId} {args : Array Value} {below : List Frame} {meth : Method} {c : Code} {A : Nat → Prop} {post : Int64 → zH → Prop} (hG : xGG E G) (C : zCx p s m args meth c E G A 3 74 prog_6_method_13_code 4 cn_T) (hr : meth.sig.returnType = (some .long)) (hk_k : xTm k) : ∀ (n : Nat) (l1 : Int32) (l3 : Int32) (h : zH), b_T_worthOf_2 k post n l1 l3 h → zGo p l e s m args below meth c E A 3 74 4 (zPl post) h 2 [some (.ref (E.2.2.1 k)), some (.int l1), some (.ref (E.2.2.1 1)), some (.int l3)] [] := by
  intro n
  induction n with
  | zero => intro l1 l3 h hw; exact False.elim hw
  | succ n hrc =>
    intro l1 l3 h hw
    unfold b_T_worthOf_2 at hw
    refine z_iload_n C (i := 3) d_T_worthOf_2 rfl rfl ?_
    refine z_iload_n C (i := 1) d_T_worthOf_3 rfl rfl ?_
    refine z_icmp_gt C (tgt := 33) d_T_worthOf_4 (by decide) (fun q => ?_) (fun q => ?_)
    · replace hw := hw.1 q
      refine z_le (lv2 := [some (.ref (E.2.2.1 k)), some (.int l1), none, none]) (⟨rfl, ⟨rfl, trivial⟩⟩) ?_
      exact w_T_worthOf_33 hG C hr hk_k _ _ hw
    · replace hw := hw.2 q
      refine z_aload_n C (i := 0) d_T_worthOf_7 rfl rfl ?_
      refine z_iload_n C (i := 3) d_T_worthOf_8 rfl rfl ?_
      refine z_callVi ⟨xN_ok, hG.1⟩ zT_good C (t_T_has hG hw) ol_T_51 (xTm_l0 hk_k) (xTm_0 hk_k) rfl (by decide) (by decide) pl_T_has rfl rfl (Nat.le_of_ble_eq_true rfl) d_T_worthOf_9 (fun r3 h4 hw => ?_)
      refine z_if_eq C (tgt := 33) d_T_worthOf_12 (by decide) (fun q => ?_) (fun q => ?_)
      · replace hw := hw.1 q
        refine z_le (lv2 := [some (.ref (E.2.2.1 k)), some (.int l1), none, none]) (⟨rfl, ⟨rfl, trivial⟩⟩) ?_
        exact w_T_worthOf_33 hG C hr hk_k _ _ hw
      · replace hw := hw.2 q
        refine z_aload_n C (i := 0) d_T_worthOf_15 rfl rfl ?_
        refine z_getK C (ci := 3) (j := 9) (F := cf_T) (xTm_l0 hk_k) (xTm_0 hk_k) rfl in_T (by decide) fl_T_39 rfl d_T_worthOf_16 ?_
        refine z_iload_n C (i := 3) d_T_worthOf_19 rfl rfl ?_
        refine z_aload_n C (i := 0) d_T_worthOf_20 rfl rfl ?_
        refine z_iload_n C (i := 3) d_T_worthOf_21 rfl rfl ?_
        refine z_aload_n C (i := 2) d_T_worthOf_22 rfl rfl ?_
        refine z_callVl ⟨xN_ok, hG.1⟩ zT_good C (t_T_work hG hw) ol_T_69 (xTm_l0 hk_k) (xTm_0 hk_k) rfl (by decide) (by decide) pl_T_work rfl rfl (Nat.le_of_ble_eq_true rfl) d_T_worthOf_23 (fun r5 h6 hw => ?_)
        refine z_last C (xTm_l hk_k (by decide)) (xTm_10 hk_k) hw.1 d_T_worthOf_26 (fun h7 eh7 => ?_)
        replace hw := hw.2 h7 eh7
        refine z_iinc C (v := l3 + 1) d_T_worthOf_27 rfl rfl (by decide) rfl ?_
        refine z_goto C (tgt := 2) d_T_worthOf_30 (by decide) ?_
        refine z_le (lv2 := [some (.ref (E.2.2.1 k)), some (.int l1), some (.ref (E.2.2.1 1)), some (.int (l3 + 1))]) (⟨rfl, ⟨rfl, ⟨rfl, ⟨rfl, trivial⟩⟩⟩⟩) ?_
        exact hrc _ _ _ hw
set_option maxRecDepth 100000 in
set_option maxHeartbeats 4000000 in
theorem t_T_worthOf {l : Launch} {E : zE} {G : (Nat → Prop) → State → Prop} (hG : xGG E G) {k : Nat} {l1 : Int32} {h : zH} {post : Int64 → zH → Prop} (hw : wp_T_worthOf k l1 h post) : Ct l xX E xcl xN zT G 3 74 y_T_worthOf prog_6_method_13_code 4 (some .long) [.ref (E.2.2.1 k), .int l1, .ref (E.2.2.1 1)] h (zPl post) := by
  unfold wp_T_worthOf at hw
  obtain ⟨hk_k, hw⟩ := hw
  refine Ct.of (by decide) (Nat.le_of_ble_eq_true rfl) ?_
  intro p e s m below meth c A C hr
  refine z_lv (lv2 := [some (.ref (E.2.2.1 k)), some (.int l1), some (.ref (E.2.2.1 1)), none]) rfl ?_
  refine z_iconst C (v := 0) d_T_worthOf_0 (by decide) ?_
  refine z_istore_n C (i := 3) d_T_worthOf_1 rfl (by decide) rfl ?_
  refine z_le (lv2 := [some (.ref (E.2.2.1 k)), some (.int l1), some (.ref (E.2.2.1 1)), some (.int 0)]) (⟨rfl, ⟨rfl, ⟨rfl, ⟨rfl, trivial⟩⟩⟩⟩) ?_
  obtain ⟨n, hw⟩ := hw
  exact w_T_worthOf_2 hG C hr hk_k n _ _ _ hw
