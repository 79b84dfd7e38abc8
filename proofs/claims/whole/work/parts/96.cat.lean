/-! A CATCH BY A CLASS THAT MAY STILL BE UNRESOLVED -/
theorem cc_go {CE : CtlPost} {e : Env} {d : Bool} {acts : List Action} {s : State} {f : JFrame} {a : Addr} {Q : Handler → Pre} {x : ExceptionTableEntry} {t : List ExceptionTableEntry} {c : ClassId} {cell : Cell} {vm' : Vm} (hx : covers x f.pc = true) (h0 : x.catchType ≠ 0)
    (hg : (Jvm.resolveClass f.method.cls x.catchType).Gives e.toSetting s.vm (.ok c) vm') (hsz : vm'.classes.size ≤ s.vm.classes.size) (hcell : s.heap[a]? = some cell) (hobj : ∀ k, cell.vm ≠ .statics k)
    (hk : ∃ k, vm'.classes[cell.cls]? = some k) (hc : ∃ k, vm'.classes[c]? = some k) (hfit : vm'.assignable cell.cls c = true) :
    wp (findHandler.go f a (x :: t)) Q CE e d acts s ↔ Q (.found x.handlerPc) d acts (s.setVm vm') := by
  simp only [covers] at hx
  obtain ⟨ha, ht⟩ := hg.op (op := VmOp.resolveClass f.method.cls x.catchType) rfl
  simp [findHandler.go, hx, h0, ha, ht, hsz, hcell, hobj, hk, hc, hfit, VmOp.dirties, VmOp.acts]
theorem cc_step {e : Env} {s : State} {a : Addr} {f : JFrame} {r : List Frame} {pc : Nat} {vm' : Vm} (hfind : ∀ (Q : Handler → Pre) (CE : CtlPost) (d : Bool) (acts : List Action), wp (findHandler f a) Q CE e d acts s ↔ Q (.found pc) d acts (s.setVm vm')) :
    (stepThrowing e s a (.java f :: r)).Is ((s.setVm vm').setFrames (.java { f with pc := pc, stack := [.ref a] } :: r)) [] := by
  simp only [stepThrowing, searchFrame, vmDo]
  generalize hr : Sem.go _ e false [] s = res
  obtain ⟨as, rfl, ha⟩ := Sem.eq_ok_of hr (a := Handler.found pc) (s' := s.setVm vm') (acts' := []) (by simp [hfind _ _ _ _])
  exact ⟨rfl, ha⟩
theorem cc_caught {tb : Tables} {e : Env} {s target : State} {g : JFrame} {c : Code} {below : List Frame} {a : Addr} {vm' : Vm} (h : At s g.method c below) {pc : Nat}
    (hfind : ∀ (Q : Handler → Pre) (CE : CtlPost) (d : Bool) (acts : List Action), wp (findHandler g a) Q CE e d acts ((s.setTop g).pushFrame (.throwing a)) ↔ Q (.found pc) d acts (((s.setTop g).pushFrame (.throwing a)).setVm vm'))
    (hrest : Steps tb e below ((s.setVm vm').setTop { g with pc := pc, stack := [.ref a] }) target) :
    Steps tb e below ((s.setTop g).pushFrame (.throwing a)) target := by
  obtain ⟨hgo, hw⟩ := h.throwing a
  refine Steps.head hgo hw ?_
  rw [stepThread_throwing (frames_entered h.top _), (cc_step (s := (s.setTop g).pushFrame (.throwing a)) hfind).1]
  obtain ⟨g₀, hg⟩ := Option.isSome_iff_exists.mp h.top
  obtain ⟨r, hr⟩ := State.topJava?_eq_some.mp hg
  have e1 : (((s.setTop g).pushFrame (.throwing a)).setVm vm').setFrames (.java { g with pc := pc, stack := [.ref a] } :: s.frames.tail) = (((s.setTop g).pushFrame (.throwing a)).setFrames (.java { g with pc := pc, stack := [.ref a] } :: s.frames.tail)).setVm vm' := rfl
  rw [e1, State.pushFrame, State.setFrames_setFrames, State.setTop_of_frames _ hr, State.setFrames_setFrames]
  have hr2 : (s.setVm vm').frames = .java g₀ :: r := hr
  rw [State.setTop_of_frames _ hr2] at hrest
  rw [hr]
  exact hrest
/-- in a walk: the exception that lies at x, of a class found by the name of the entry's class, is caught at pc -/
theorem cc_catch {p : Program} {l : Launch} {e : Env} {R : Room} {s : State} {m : MethodId} {args : Array Value} {below : List Frame} {meth : Method} {c : Code} {T : State} {locs : List Loc} {cells slots : Nat} (X : Stand p l e R s m args below meth c T locs cells slots) {own K : String} {index : Nat} {x : Addr} {cell : Cell} {g : JFrame} (hg : g.method = m) {xe : ExceptionTableEntry} (ht : c.exceptionTable.toList = [xe]) (hcov : covers xe g.pc = true) (h0 : xe.catchType ≠ 0) (hix : xe.catchType = index)
    (hown : s.vm.findClass own = some m.cls) (hlink : (Cond.classLink own index K).before args s = true) (hcell : T.heap[x]? = some cell) (hv : cell.vm = .none) (hcls : s.vm.findClass K = some cell.cls) (hfit : s.vm.assignable cell.cls cell.cls = true) :
    ∃ vm' : Vm, Stand p l e R s m args below meth c (T.setVm vm') locs cells slots ∧ ∀ target, Steps p.tables e below ((T.setVm vm').setTop { g with pc := xe.handlerPc, stack := [.ref x] }) target → Steps p.tables e below ((T.setTop g).pushFrame (.throwing x)) target := by
  subst hg
  subst hix
  have hpl : e.platform.magicAccessors = ({} : Platform).magicAccessors := by rw [X.admits.platform]
  obtain ⟨cc, hfcc, hcl⟩ := Cond.classLink_spec hown hlink e.platform hpl
  cases hcls.symm.trans hfcc
  obtain ⟨hg₁, hwarm₁, hready₁⟩ := State.classEntry (e := e) X.warmed hcl
  have hsz : (T.vm.noted g.method.cls xe.catchType (.cls cell.cls)).classes.size ≤ T.vm.classes.size := by simp
  generalize T.vm.noted g.method.cls xe.catchType (.cls cell.cls) = vm₁ at hg₁ hwarm₁ hready₁ hsz
  obtain ⟨kc, hkc⟩ := Vm.classAt_of_findClass hcls
  obtain ⟨k₁, hk₁, -⟩ := hwarm₁.alike.2.2 _ _ hkc
  have hfit₁ : vm₁.assignable cell.cls cell.cls = true := by rw [hwarm₁.alike.assignable]; exact hfit
  refine ⟨vm₁, X.noted hwarm₁, fun target hrest => ?_⟩
  refine cc_caught X.here (vm' := vm₁) (pc := xe.handlerPc) (fun Q CE d acts => ?_) hrest
  have hm : ((T.setTop g).pushFrame (.throwing x)).vm.method? g.method = some meth := by rw [Stand.throwing_vm]; exact X.method'
  rw [W.findHandler_eq hm X.code, ht]
  exact cc_go hcov h0 (by rw [Stand.throwing_vm]; exact hg₁) (by rw [Stand.throwing_vm]; exact hsz) (by rw [Stand.throwing_heap]; exact hcell) (fun k => by rw [hv]; intro h; cases h) ⟨_, hk₁⟩ ⟨_, hk₁⟩ hfit₁
