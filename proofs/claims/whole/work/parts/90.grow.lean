/-! WORLDS THAT GROW: constructors -/
abbrev kI (E : zE) (n : Nat) : va_E := .inl (E.2.1.1, n, .inl (fun _ => 0))
abbrev kL (E : zE) (n : Nat) : va_E := .inl (E.2.1.2, n, .inr (.inl (fun _ => 0)))
def kB (E : zE) (cl : List vw_C) (N : List Cond) (G : (Nat → Prop) → State → Prop) (ws : va_W) (sz : Nat) (U : State) : Prop := U.heap.size = sz ∧ va_P E.1 cl ws U.heap ∧ va_K E.1 cl (zty E) U ∧ va_D (fun _ => True) ws ∧ (∀ w ∈ N, va_Nw w U) ∧ G (va_A ws sz) U
def kQ (E : zE) (cl : List vw_C) (A : Nat → Prop) (out : List Nat → va_W) : Array Value → State → Outcome → State → Prop := va_Qv (fun _ : List Nat => True) (fun u t => va_P E.1 cl (out u) t.heap ∧ va_D A (out u)) A
def krm (d w mc ms : Nat) : Room := { frames := d, cells := mc, slots := ms, locals := w }
/-- a constructor: of its new object come the cells 'out' -/
def Ck (l : Launch) (E : zE) (cl : List vw_C) (N T : List Cond) (G : (Nat → Prop) → State → Prop) (d w mc ms : Nat) (y : MethodName) (cc : ByteArray) (nL ci : Nat) (fs : List Value) (b : Nat) (As : List Value) (out : List Nat → va_W) : Prop :=
  ∀ sz : Nat, Met l y (Cond.code y cc nL none :: T) (krm d w mc ms) (va_Pc (.ref b :: As) (kB E cl N G [(b, .inr (ci, fs))] sz)) (kQ E cl (va_A [(b, .inr (ci, fs))] sz) out) mc ms (va_A [(b, .inr (ci, fs))] sz)
section GG
variable {p : Program} {l : Launch} {e : Env} {R : Room} {s : State} {m : MethodId} {args : Array Value} {below : List Frame} {meth : Method} {c : Code} {Q : State → Prop}
variable {cc : ByteArray} {nL : Nat} {T : List Cond} {own : String} {X : zX} {E : zE} {cl : List vw_C} {N : List Cond} {A : Nat → Prop} {kc ks k0 s0 : Nat} {G : (Nat → Prop) → State → Prop}
variable {ws : va_W} {pc : Nat} {lv : List (Option Value)} {rest : List Value}
def GW (p : Program) (l : Launch) (e : Env) (R : Room) (s : State) (m : MethodId) (args : Array Value) (below : List Frame) (meth : Method) (c : Code) (Q : State → Prop) (E : zE) (cl : List vw_C) (A : Nat → Prop) (H0 : Heap) (nL kc ks : Nat) (ws : va_W) (pc : Nat) (lv : List (Option Value)) (st : List Value) : Prop :=
  ∀ (H : Heap) (locs : List Loc) (ls : Array Slot), va_P E.1 cl ws H → va_D A ws → va_S A H0 H locs → zLH ls nL lv → W p l e R s m args below meth c H locs kc ks Q (F0 m pc ls st)
theorem g_ws {ws2 : va_W} (hh : ws = ws2) {st : List Value} (k : GW p l e R s m args below meth c Q E cl A s.heap nL kc ks ws2 pc lv st) : GW p l e R s m args below meth c Q E cl A s.heap nL kc ks ws pc lv st := by subst hh; exact k
theorem g_lv {lv2 : List (Option Value)} (hh : lv = lv2) {st : List Value} (k : GW p l e R s m args below meth c Q E cl A s.heap nL kc ks ws pc lv2 st) : GW p l e R s m args below meth c Q E cl A s.heap nL kc ks ws pc lv st := by subst hh; exact k
theorem g_kk {kc2 ks2 : Nat} (h1 : kc = kc2) (h2 : ks = ks2) {st : List Value} (k : GW p l e R s m args below meth c Q E cl A s.heap nL kc2 ks2 ws pc lv st) : GW p l e R s m args below meth c Q E cl A s.heap nL kc ks ws pc lv st := by subst h1 h2; exact k
theorem g_perm {ws2 : va_W} (is : List Nat) (h1 : is.filterMap (fun i => ws[i]?) = ws2) (hn : va_nd is = true) (h2 : is.map (fun i => ws[i]?) = ws2.map some) {st : List Value} (k : GW p l e R s m args below meth c Q E cl A s.heap nL kc ks ws2 pc lv st) : GW p l e R s m args below meth c Q E cl A s.heap nL kc ks ws pc lv st := fun H locs ls hP hD hS hL => k H locs ls (hP.sub is h1) (hD.sub is hn h2) hS hL
theorem g_aload_n (C : ZC p R s m args meth c cc nL T own E cl N G A X k0 s0 s.heap) {f : Fin 4} {i : Nat} {x : Nat} (hd : decode cc pc = .ok (.aload_n f, 1)) (hi : (f : Nat) = i) (hl : lv[i]? = some (some (.ref x))) (k : GW p l e R s m args below meth c Q E cl A s.heap nL kc ks ws (pc + 1) lv (.ref x :: rest)) : GW p l e R s m args below meth c Q E cl A s.heap nL kc ks ws pc lv rest := fun H locs ls hP hD hS hL => lv_aload_n C.1.1 C.1.2.1 hd hi (hL.2.2 _ _ hl) (k H locs ls hP hD hS hL)
theorem g_astore_n (C : ZC p R s m args meth c cc nL T own E cl N G A X k0 s0 s.heap) {f : Fin 4} {i : Nat} {x : Nat} (hd : decode cc pc = .ok (.astore_n f, 1)) (hi : (f : Nat) = i) (hn : i < nL) (hp : zpv lv i = true) (k : GW p l e R s m args below meth c Q E cl A s.heap nL kc ks ws (pc + 1) (lv.set i (some (.ref x))) rest) : GW p l e R s m args below meth c Q E cl A s.heap nL kc ks ws pc lv (.ref x :: rest) := fun H locs ls hP hD hS hL => lv_astore_n C.1.1 C.1.2.1 hd hi hL.has hn rfl (fun ls2 hL2 => k H locs ls2 hP hD hS (zLH.st1 hL2 hp))
theorem g_dup (C : ZC p R s m args meth c cc nL T own E cl N G A X k0 s0 s.heap) {va : Value} (hd : decode cc pc = .ok (.dup, 1)) (hva : va.category = 1) (k : GW p l e R s m args below meth c Q E cl A s.heap nL kc ks ws (pc + 1) lv (va :: va :: rest)) : GW p l e R s m args below meth c Q E cl A s.heap nL kc ks ws pc lv (va :: rest) := fun H locs ls hP hD hS hL => lv_dup C.1.1 C.1.2.1 hd hva (k H locs ls hP hD hS hL)
theorem g_iconst (C : ZC p R s m args meth c cc nL T own E cl N G A X k0 s0 s.heap) {n : Int} {v : Int32} (hd : decode cc pc = .ok (.iconst n, 1)) (hv : Int32.ofInt n = v) (k : GW p l e R s m args below meth c Q E cl A s.heap nL kc ks ws (pc + 1) lv (.int v :: rest)) : GW p l e R s m args below meth c Q E cl A s.heap nL kc ks ws pc lv rest := fun H locs ls hP hD hS hL => lv_iconst C.1.1 C.1.2.1 hd hv (k H locs ls hP hD hS hL)
theorem g_bipush (C : ZC p R s m args meth c cc nL T own E cl N G A X k0 s0 s.heap) {n : Int} {v : Int32} (hd : decode cc pc = .ok (.bipush n, 2)) (hv : (Int8.ofInt n).toInt32 = v) (k : GW p l e R s m args below meth c Q E cl A s.heap nL kc ks ws (pc + 2) lv (.int v :: rest)) : GW p l e R s m args below meth c Q E cl A s.heap nL kc ks ws pc lv rest := fun H locs ls hP hD hS hL => lv_bipush C.1.1 C.1.2.1 hd hv (k H locs ls hP hD hS hL)
theorem g_sipush (C : ZC p R s m args meth c cc nL T own E cl N G A X k0 s0 s.heap) {n : Int} {v : Int32} (hd : decode cc pc = .ok (.sipush n, 3)) (hv : (Int16.ofInt n).toInt32 = v) (k : GW p l e R s m args below meth c Q E cl A s.heap nL kc ks ws (pc + 3) lv (.int v :: rest)) : GW p l e R s m args below meth c Q E cl A s.heap nL kc ks ws pc lv rest := fun H locs ls hP hD hS hL => lv_sipush C.1.1 C.1.2.1 hd hv (k H locs ls hP hD hS hL)
theorem g_lconst (C : ZC p R s m args meth c cc nL T own E cl N G A X k0 s0 s.heap) {n : Fin 2} {v : Int64} (hd : decode cc pc = .ok (.lconst n, 1)) (hv : Int64.ofNat (n : Nat) = v) (k : GW p l e R s m args below meth c Q E cl A s.heap nL kc ks ws (pc + 1) lv (.long v :: rest)) : GW p l e R s m args below meth c Q E cl A s.heap nL kc ks ws pc lv rest := fun H locs ls hP hD hS hL => lv_lconst C.1.1 C.1.2.1 hd hv (k H locs ls hP hD hS hL)
theorem g_objInit (C : ZC p R s m args meth c cc nL T own E cl N G A X k0 s0 s.heap) {i a : Nat} (h1 : Cond.methodLink own i Lib.objectInit ∈ T) (h2 : Cond.instanceMethod Lib.objectInit ∈ T) (h3 : Cond.code Lib.objectInit ⟨#[0xb1]⟩ 1 none ∈ T) (hd : decode cc pc = .ok (.invokespecial i, 3)) (hf : 1 ≤ R.frames) (hlo : 30 ≤ R.locals) (hW : (rest.map fun v => v.category).sum ≤ 8) (k : GW p l e R s m args below meth c Q E cl A s.heap nL kc ks ws (pc + 3) lv rest) : GW p l e R s m args below meth c Q E cl A s.heap nL kc ks ws pc lv (.ref a :: rest) := by
  intro H locs ls hP hD hS hL
  have hrm : 2 * (F0 m pc ls (.ref a :: rest)).monitorRoom + (rest.map fun v => v.category).sum + 12 ≤ R.locals := by
    have : 2 * (F0 m pc ls (.ref a :: rest)).monitorRoom + (rest.map fun v => v.category).sum ≤ 8 := lv_room hW
    omega
  refine W.objInit C.1.1 C.1.2.1 C.1.2.2.2.1 (C.1.2.2.2.2 _ h1) (C.1.2.2.2.2 _ h2) (C.1.2.2.2.2 _ h3) rfl (by rw [C.1.2.2.1]; exact hL.1) rfl hd hf hrm ?_
  exact k H locs ls hP hD hS hL
theorem g_new (C : ZC p R s m args meth c cc nL T own E cl N G A X k0 s0 s.heap) {ci index n : Nat} {K : String} {F : u_T} (tf : Nat → FieldType) {fs : List Value} (hty : ∀ k, k < n → parseFieldDescriptor (F k).2.2.1 = some (tf k)) (hin : ∀ w ∈ u_ws K F n, w ∈ T) (h1 : Cond.classLink own index K ∈ T) (h2 : Cond.instantiable K n ∈ T) (h3 : Cond.initialized K ∈ T) (hc : cl[ci]? = some (K, F, n)) (hfs : ∀ j, j < n → defaultValue (tf j) = vp_V fs j) (hcells : kc + 1 ≤ R.cells) (hslots : ks + n ≤ R.slots) (hd : decode cc pc = .ok (.new index, 3))
    (k : ∀ q : Nat, GW p l e R s m args below meth c Q E cl A s.heap nL (kc + 1) (ks + n) (ws ++ [(q, .inr (ci, fs))]) (pc + 3) lv (.ref q :: rest)) : GW p l e R s m args below meth c Q E cl A s.heap nL kc ks ws pc lv rest := fun H locs ls hP hD hS hL => va_new C.1.1 C.1.2.1 C.1.2.2.2.2 hin tf hty C.1.2.2.2.1 (C.1.2.2.2.2 _ h1) (C.1.2.2.2.2 _ h2) (C.1.2.2.2.2 _ h3) C.2.1 hP hD hS C.2.2.2.2.2.1 hc hfs hcells hslots hd (fun q H1 hP1 hD1 hS1 => k q H1 locs ls hP1 hD1 hS1 hL)
theorem g_newI (C : ZC p R s m args meth c cc nL T own E cl N G A X k0 s0 s.heap) {n : Int32} {n' : Nat} (ha : Cond.arrayClass .int ∈ T) (hn : ¬ n < 0) (hN : n.toNatClampNeg = n') (hb : n' * componentBytes .int ≤ 536870912) (hcells : kc + 1 ≤ R.cells) (hslots : ks + n' ≤ R.slots) (hd : decode cc pc = .ok (.newarray .int, 2))
    (k : ∀ q : Nat, GW p l e R s m args below meth c Q E cl A s.heap nL (kc + 1) (ks + n') (ws ++ [(q, kI E n')]) (pc + 2) lv (.ref q :: rest)) : GW p l e R s m args below meth c Q E cl A s.heap nL kc ks ws pc lv (.int n :: rest) := by
  intro H locs ls hP hD hS hL
  refine va_newa (atype := .int) (a0 := (n', .inl (fun _ => 0))) (ty := .int) C.1.1 C.1.2.1 (C.1.2.2.2.2 _ ha) rfl C.2.1 hP hD hS C.2.2.2.2.2.1 (fun _ => rfl) hn hN hb hcells hslots hd (fun q cA H1 hK1 hP1 hD1 hS1 => ?_)
  have h1 : s.vm.findClass ("[" ++ FieldType.int.toString) = some cA := (hK1.2 2 (cA, .int) rfl).2
  have h2 : s.vm.findClass ("[" ++ FieldType.int.toString) = some E.2.1.1 := (C.2.1.2 0 (E.2.1.1, .int) rfl).2
  have e1 : cA = E.2.1.1 := Option.some.inj (h1.symm.trans h2)
  subst e1
  exact k q H1 locs ls hP1 hD1 hS1 hL
theorem g_newL (C : ZC p R s m args meth c cc nL T own E cl N G A X k0 s0 s.heap) {n : Int32} {n' : Nat} (ha : Cond.arrayClass .long ∈ T) (hn : ¬ n < 0) (hN : n.toNatClampNeg = n') (hb : n' * componentBytes .long ≤ 536870912) (hcells : kc + 1 ≤ R.cells) (hslots : ks + n' ≤ R.slots) (hd : decode cc pc = .ok (.newarray .long, 2))
    (k : ∀ q : Nat, GW p l e R s m args below meth c Q E cl A s.heap nL (kc + 1) (ks + n') (ws ++ [(q, kL E n')]) (pc + 2) lv (.ref q :: rest)) : GW p l e R s m args below meth c Q E cl A s.heap nL kc ks ws pc lv (.int n :: rest) := by
  intro H locs ls hP hD hS hL
  refine va_newa (atype := .long) (a0 := (n', .inr (.inl (fun _ => 0)))) (ty := .long) C.1.1 C.1.2.1 (C.1.2.2.2.2 _ ha) rfl C.2.1 hP hD hS C.2.2.2.2.2.1 (fun _ => rfl) hn hN hb hcells hslots hd (fun q cA H1 hK1 hP1 hD1 hS1 => ?_)
  have h1 : s.vm.findClass ("[" ++ FieldType.long.toString) = some cA := (hK1.2 2 (cA, .long) rfl).2
  have h2 : s.vm.findClass ("[" ++ FieldType.long.toString) = some E.2.1.2 := (C.2.1.2 1 (E.2.1.2, .long) rfl).2
  have e1 : cA = E.2.1.2 := Option.some.inj (h1.symm.trans h2)
  subst e1
  exact k q H1 locs ls hP1 hD1 hS1 hL
theorem g_putF (C : ZC p R s m args meth c cc nL T own E cl N G A X k0 s0 s.heap) {ci i j n a : Nat} {F : u_T} {ty : FieldType} {v : Value} {fs : List Value} (hin2 : meth.name = "<init>") (tf : Nat → FieldType) (hty : ∀ k, k < n → parseFieldDescriptor (F k).2.2.1 = some (tf k)) (hnm : ∀ a, a < n → ∀ b, b < n → a ≠ b → (F a).2.1 ≠ (F b).2.1) (hin : ∀ w ∈ u_ws own F n, w ∈ T) (q0 : Nat) (he : ws[q0]? = some (a, .inr (ci, fs))) (hc : cl[ci]? = some (own, F, n)) (hj : j < n) (hl : Cond.fieldLink own i own (F j).2.1 (F j).2.2.1 ∈ T) (ho : (F j).1 = own) (hfin : (F j).2.2.2 = true) (hdt : parseFieldDescriptor (F j).2.2.1 = some ty) (hnr : narrow ty v = v) (hfit : fits ty v = true) (hlen : j < fs.length) (hd : decode cc pc = .ok (.putfield i, 3))
    (k : GW p l e R s m args below meth c Q E cl A s.heap nL kc ks (ws.set q0 (a, .inr (ci, fs.set j v))) (pc + 3) lv rest) : GW p l e R s m args below meth c Q E cl A s.heap nL kc ks ws pc lv (v :: .ref a :: rest) := fun H locs ls hP hD hS hL => va_putF (D := E.1) (ref := own) C.1.1 C.1.2.1 C.1.2.2.2.2 hin tf hty hnm C.1.2.2.2.1 C.2.1 hP hD hS q0 he hc j hj (C.1.2.2.2.2 _ hl) (fun _ h9 => by rw [ho] at h9; exact h9) hfin hin2 ho hdt hnr hfit hlen hd (fun H1 locs1 hP1 hD1 hS1 => k H1 locs1 ls hP1 hD1 hS1 hL)
theorem g_put (C : ZC p R s m args meth c cc nL T own E cl N G A X k0 s0 s.heap) {ci i j n a : Nat} {F : u_T} {ty : FieldType} {v : Value} {fs : List Value} (tf : Nat → FieldType) (hty : ∀ k, k < n → parseFieldDescriptor (F k).2.2.1 = some (tf k)) (hnm : ∀ a, a < n → ∀ b, b < n → a ≠ b → (F a).2.1 ≠ (F b).2.1) (hin : ∀ w ∈ u_ws own F n, w ∈ T) (q0 : Nat) (he : ws[q0]? = some (a, .inr (ci, fs))) (hc : cl[ci]? = some (own, F, n)) (hj : j < n) (hl : Cond.fieldLink own i own (F j).2.1 (F j).2.2.1 ∈ T) (ho : (F j).1 = own) (hfin : (F j).2.2.2 = false) (hdt : parseFieldDescriptor (F j).2.2.1 = some ty) (hnr : narrow ty v = v) (hfit : fits ty v = true) (hlen : j < fs.length) (hd : decode cc pc = .ok (.putfield i, 3))
    (k : GW p l e R s m args below meth c Q E cl A s.heap nL kc ks (ws.set q0 (a, .inr (ci, fs.set j v))) (pc + 3) lv rest) : GW p l e R s m args below meth c Q E cl A s.heap nL kc ks ws pc lv (v :: .ref a :: rest) := fun H locs ls hP hD hS hL => va_put (D := E.1) (ref := own) C.1.1 C.1.2.1 C.1.2.2.2.2 hin tf hty hnm C.1.2.2.2.1 C.2.1 hP hD hS q0 he hc j hj (C.1.2.2.2.2 _ hl) (fun _ h9 => by rw [ho] at h9; exact h9) hfin hdt hnr hfit hlen hd (fun H1 locs1 hP1 hD1 hS1 => k H1 locs1 ls hP1 hD1 hS1 hL)
theorem g_get (C : ZC p R s m args meth c cc nL T own E cl N G A X k0 s0 s.heap) {ci i j n a : Nat} {F : u_T} {v : Value} {fs : List Value} (hin : ∀ w ∈ u_ws own F n, w ∈ T) (q0 : Nat) (he : ws[q0]? = some (a, .inr (ci, fs))) (hc : cl[ci]? = some (own, F, n)) (hj : j < n) (hl : Cond.fieldLink own i own (F j).2.1 (F j).2.2.1 ∈ T) (ho : (F j).1 = own) (hv : fs[j]? = some v) (hd : decode cc pc = .ok (.getfield i, 3))
    (k : GW p l e R s m args below meth c Q E cl A s.heap nL kc ks ws (pc + 3) lv (v :: rest)) : GW p l e R s m args below meth c Q E cl A s.heap nL kc ks ws pc lv (.ref a :: rest) := fun H locs ls hP hD hS hL => va_get (D := E.1) (ref := own) C.1.1 C.1.2.1 C.1.2.2.2.2 hin C.1.2.2.2.1 C.2.1 hP q0 he hc j hj (C.1.2.2.2.2 _ hl) (fun _ h9 => by rw [ho] at h9; exact h9) hv hd (k H locs ls hP hD hS hL)
theorem g_pre {H : Heap} {locs : List Loc} {av : List Value} {wc : va_W} (hN : (∀ w ∈ N, zNest w = true) ∧ zGr G) (C : ZC p R s m args meth c cc nL T own E cl N G A X k0 s0 s.heap) (hS : va_S A s.heap H locs) (hP : va_P E.1 cl wc H) (hD : va_D A wc) (hF : ∀ q, va_A wc H.size q → A q) : PreS s H (va_Pc av (kB E cl N G wc H.size)) av := by
  refine ⟨fun a U g mk q => ?_, fun U hU hW => ?_⟩
  · obtain ⟨q0, q1, qP, qK, qD, qN, qG⟩ := q
    exact ⟨q0, q1, qP, va_K.moved (u := U) (U := U.calling g mk a) (Vm.Alike.refl U.vm) qK, qD, fun w hw => va_Nw.same (zNest_on (hN.1 w hw)) (u := U) (U := U.calling g mk a) rfl (qN w hw), hN.2.2 _ U g mk a qG⟩
  · exact ⟨rfl, by rw [hU], by rw [hU]; exact hP, va_K.moved hW.alike C.2.1, hD.weaken (fun _ _ _ _ => trivial), fun w hw => zNest_warm (hN.1 w hw) hW (C.2.2.1 w hw), hN.2.1 A _ s U locs C.2.2.2.2.2.2 (by rw [hU]; exact hS) hW hF⟩
theorem g_initN (hN : (∀ w ∈ N, zNest w = true) ∧ zGr G) (hG : zGood T) (C : ZC p R s m args meth c cc nL T own E cl N G A X k0 s0 s.heap) {y : MethodName} {bytes : ByteArray} {maxL n i d2 w2 mc ms ci b i0 : Nat} {host : String} {fs As st0 : List Value} {out : List Nat → va_W} {wr : va_W} {isR : List Nat} (hc : Ck l E cl N T G d2 w2 mc ms y bytes maxL ci fs b As out) (h1 : Cond.instanceMethod y ∈ T) (h2 : Cond.initialized y.cls ∈ T) (h3 : Cond.code y bytes maxL none ∈ T) (hl : Cond.methodLinkNest own i y host ∈ N) (hy : y.name = "<init>") (hfr : d2 + 1 ≤ R.frames) (hlo : 8 + (maxL + 11) + w2 ≤ R.locals) (hpl : y.cls ≠ "java/lang/invoke/MethodHandle" ∧ y.cls ≠ "java/lang/invoke/VarHandle" ∧ (parseMethodDescriptor y.desc).map (fun d => d.parameters.length) = some n) (hn : As.length = n) (hst : st0 = As.reverse ++ .ref b :: rest) (hW : (rest.map fun v => v.category).sum ≤ 8) (hd : decode cc pc = .ok (.invokespecial i, 3)) (hC1 : [i0].filterMap (fun i => ws[i]?) = [(b, .inr (ci, fs))]) (hC : [i0].map (fun i => ws[i]?) = ([(b, .inr (ci, fs))] : va_W).map some) (hR : isR.map (fun i => ws[i]?) = wr.map some) (hnd : va_nd isR = true) (hdis : ∀ i ∈ isR, i ∉ [i0]) (hcells : kc + mc ≤ R.cells) (hslots : ks + ms ≤ R.slots)
    (kk : ∀ u : List Nat, GW p l e R s m args below meth c Q E cl A s.heap nL (kc + mc) (ks + ms) (wr ++ out u) (pc + 3) lv rest) : GW p l e R s m args below meth c Q E cl A s.heap nL kc ks ws pc lv st0 := by
  intro H locs ls hP hD hS hL
  have hPc := hP.sub [i0] hC1
  have hDc := hD.sub [i0] rfl hC
  have hFc := va_free hD hS C.2.2.2.2.2.1 [i0] hC
  have hpre := g_pre (av := (.ref b :: As)) hN C hS hPc hDc hFc
  subst hst
  refine va_callv (va_runIN (As := As) (rest := rest) C.1 (hc H.size) ⟨⟨⟨rfl, rfl, hfr, hlo, (hG.pay C.1.2.2.2.2 h3), List.mem_cons_self⟩, C.1.2.2.2.2 _ h3, C.1.2.2.2.2 _ h2, ⟨hpl.1, hpl.2.1⟩, z_lens hpl.2.2, va_Nw.use rfl (C.2.2.1 _ hl)⟩, hy, C.1.2.2.2.2 _ h1⟩ hpre rfl hn hL.1 rfl (lv_room hW) hd ⟨hcells, hslots⟩) hS (fun q _ h => hFc q h) hFc (fun u t H1 locs1 ht hvm hw hB hz1 hk1 hS1 => ?_)
  obtain ⟨hP1, hD1⟩ := hB
  rw [ht] at hP1
  obtain ⟨hP2, hD2⟩ := va_join hP hD [i0] isR hC hR hnd hdis hk1 hFc hP1 hD1
  exact kk u H1 locs1 ls hP2 hD2 hS1 hL
theorem g_initP (hN : (∀ w ∈ N, zNest w = true) ∧ zGr G) (hG : zGood T) (C : ZC p R s m args meth c cc nL T own E cl N G A X k0 s0 s.heap) {y : MethodName} {bytes : ByteArray} {maxL n i d2 w2 mc ms ci b i0 : Nat} {fs As st0 : List Value} {out : List Nat → va_W} {wr : va_W} {isR : List Nat} (hc : Ck l E cl N T G d2 w2 mc ms y bytes maxL ci fs b As out) (h1 : Cond.instanceMethod y ∈ T) (h2 : Cond.initialized y.cls ∈ T) (h3 : Cond.code y bytes maxL none ∈ T) (hl : Cond.methodLink own i y ∈ T) (hy : y.name = "<init>") (hfr : d2 + 1 ≤ R.frames) (hlo : 8 + (maxL + 11) + w2 ≤ R.locals) (hpl : y.cls ≠ "java/lang/invoke/MethodHandle" ∧ y.cls ≠ "java/lang/invoke/VarHandle" ∧ (parseMethodDescriptor y.desc).map (fun d => d.parameters.length) = some n) (hn : As.length = n) (hst : st0 = As.reverse ++ .ref b :: rest) (hW : (rest.map fun v => v.category).sum ≤ 8) (hd : decode cc pc = .ok (.invokespecial i, 3)) (hC1 : [i0].filterMap (fun i => ws[i]?) = [(b, .inr (ci, fs))]) (hC : [i0].map (fun i => ws[i]?) = ([(b, .inr (ci, fs))] : va_W).map some) (hR : isR.map (fun i => ws[i]?) = wr.map some) (hnd : va_nd isR = true) (hdis : ∀ i ∈ isR, i ∉ [i0]) (hcells : kc + mc ≤ R.cells) (hslots : ks + ms ≤ R.slots)
    (kk : ∀ u : List Nat, GW p l e R s m args below meth c Q E cl A s.heap nL (kc + mc) (ks + ms) (wr ++ out u) (pc + 3) lv rest) : GW p l e R s m args below meth c Q E cl A s.heap nL kc ks ws pc lv st0 := by
  intro H locs ls hP hD hS hL
  have hPc := hP.sub [i0] hC1
  have hDc := hD.sub [i0] rfl hC
  have hFc := va_free hD hS C.2.2.2.2.2.1 [i0] hC
  have hpre := g_pre (av := (.ref b :: As)) hN C hS hPc hDc hFc
  subst hst
  refine va_callv (va_runI (As := As) (rest := rest) C.1 (hc H.size) ⟨⟨rfl, rfl, hfr, hlo, (hG.pay C.1.2.2.2.2 h3), List.mem_cons_self, C.1.2.2.2.2 _ h3, C.1.2.2.2.2 _ h2, ⟨hpl.1, hpl.2.1⟩, z_lens hpl.2.2, C.1.2.2.2.2 _ hl⟩, hy, C.1.2.2.2.2 _ h1⟩ hpre rfl hn hL.1 rfl (lv_room hW) hd ⟨hcells, hslots⟩) hS (fun q _ h => hFc q h) hFc (fun u t H1 locs1 ht hvm hw hB hz1 hk1 hS1 => ?_)
  obtain ⟨hP1, hD1⟩ := hB
  rw [ht] at hP1
  obtain ⟨hP2, hD2⟩ := va_join hP hD [i0] isR hC hR hnd hdis hk1 hFc hP1 hD1
  exact kk u H1 locs1 ls hP2 hD2 hS1 hL
theorem g_vret {mc ms : Nat} {out : List Nat → va_W} (C : ZC p R s m args meth c cc nL T own E cl N G A X k0 s0 s.heap) (hr : meth.sig.returnType = none) (hd : decode cc pc = .ok (.return_, 1)) (u : List Nat) (hu : ws = out u) (hk : kc ≤ mc) (hs : ks ≤ ms) : GW p l e R s m args below meth c (MQ below (kQ E cl A out) args s mc ms A) E cl A s.heap nL kc ks ws pc lv [] := by
  intro H locs ls hP hD hS hL
  refine W.widen hk hs ?_
  exact W.vret C.1.1 C.1.2.1 hr (fun t ht hW => ⟨⟨u, rfl, trivial, by rw [ht, ← hu]; exact hP, by rw [← hu]; exact hD⟩, hS.F ht⟩) hS.2.2 hd C.2.2.2.1
end GG
theorem Ck.of {l : Launch} {E : zE} {cl : List vw_C} {N T : List Cond} {G : (Nat → Prop) → State → Prop} {d w mc ms : Nat} {y : MethodName} {cc : ByteArray} {nL ci b : Nat} {fs As : List Value} {out : List Nat → va_W} (hy : plainName y.cls = true) (hav : (lg_sl (.ref b :: As)).length ≤ nL) (X : zX)
    (body : ∀ (p : Program) (e : Env) (s : State) (m : MethodId) (below : List Frame) (meth : Method) (c : Code) (A : Nat → Prop), ZC p (krm d w mc ms) s m (.ref b :: As : List Value).toArray meth c cc nL T y.cls E cl N G A X 0 0 s.heap → meth.sig.returnType = none → meth.name = y.name →
      GW p l e (krm d w mc ms) s m (.ref b :: As : List Value).toArray below meth c (MQ below (kQ E cl A out) (.ref b :: As : List Value).toArray s mc ms A) E cl A s.heap nL 0 0 [(b, .inr (ci, fs))] 0 (zlv (.ref b :: As) nL) []) : Ck l E cl N T G d w mc ms y cc nL ci fs b As out := by
  intro sz
  refine Met.ofW (cc := cc) (maxL := nL) (ret := none) hy rfl ?_
  intro p e s m args below meth c s₁ B hml hv
  obtain ⟨rfl, hsz, hP, hK, hD0, hN, hGG⟩ := hv
  subst hsz
  have hts := atoms_spec (ws := Cond.code y cc nL none :: T) B.pre
  have hown : s.vm.findClass y.cls = some m.cls := findClass_of_methodNamed B.named
  have C : ZC p (krm d w mc ms) s m (.ref b :: As : List Value).toArray meth c cc nL T y.cls E cl N G (va_A [(b, .inr (ci, fs))] s.heap.size) X 0 0 s.heap := ⟨⟨B.exec, B.bytes, hml, hown, fun w hw => hts w (List.mem_cons_of_mem _ hw)⟩, hK, hN, B.notSynchronized, ⟨Nat.zero_le _, Nat.zero_le _⟩, fun q hq => Or.inr hq, hGG⟩
  have hD := hD0.self (sz := s.heap.size)
  have hl := lv_entry (.ref b :: As) (n := nL) hav
  rw [lg_entry_eq]
  generalize (lg_sl (.ref b :: As) ++ List.replicate (nL - (lg_sl (.ref b :: As)).length) Slot.unset).toArray = ls at hl ⊢
  exact body p e s m below meth c _ C B.returns (name_of_methodNamed B.named B.method).1 s.heap [] ls hP hD va_S.rf (zlv_in hl)
