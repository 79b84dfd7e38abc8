/-! THE THROW OF value, AND WHAT IT NEEDS OF THE GROUND -/
def xIO : String := "java/lang/IndexOutOfBoundsException"
def xUp : List String := ["java/lang/RuntimeException", "java/lang/Exception"]
def oaRef : List Cond := [.isRef (.static Bundle.tN "UNASSIGNED_STACK" Bundle.steD), .isRef (.static Bundle.tN "SUPPRESSED_SENTINEL" Bundle.listD)]
def oaLay : List Cond := [.laysStatic Bundle.tN "UNASSIGNED_STACK" Bundle.steD, .laysStatic Bundle.tN "SUPPRESSED_SENTINEL" Bundle.listD]
def oaG (w : Cond) : Bool := match w with
  | .castable .. => true
  | .declares _ => true
  | _ => false
abbrev oaAll : List Cond := Bundle.ownAtoms "RangeReckoner" 85 xIO xUp
set_option maxRecDepth 100000 in
theorem oa_4 : ∀ a ∈ oaAll, a ∈ oaRef ∨ a ∈ oaLay ∨ goodWord a = true ∨ oaG a = true := by decide +kernel
set_option maxRecDepth 100000 in
theorem oa_5 : ∀ a ∈ oaAll, a ∈ oaRef ∨ a ∈ tables_1 := by decide +kernel
def oaX : List Cond := oaAll.filter oaG
theorem oaG_on {w : Cond} (h : oaG w = true) : w.onTables = true := by
  cases w <;> first | rfl | (simp [oaG] at h)
theorem oaG_warm {w : Cond} (h : oaG w = true) {s U : State} (hW : s.WarmedH U.vm) (hz : va_Nw w s) : va_Nw w U := by
  cases w <;> first | exact va_Nw.warmC hW hz | exact va_Nw.warmD hW hz | (simp [oaG] at h)
/-- where a static lies -/
def zLS (C n d : String) (A : Nat → Prop) (U : State) (H : Heap) : Prop := ∃ (c : ClassId) (k : Class) (i : Nat) (f : Field) (a : Nat) (cell : Cell), U.vm.findClass C = some c ∧ U.fieldFound? C n d = some (c, k, i, f) ∧ f.isStatic = true ∧ k.statics = some a ∧ H[a]? = some cell ∧ cell.vm.isStatics = true ∧ cell.cls = c ∧ f.slot < cell.slots.size ∧ k.staticTypes[f.slot]? = some f.type ∧ ¬ A a
theorem zLS.moved {C n d : String} {A : Nat → Prop} {u U : State} {H : Heap} (hvm : u.vm.Alike U.vm) (h : zLS C n d A u H) : zLS C n d A U H := by
  obtain ⟨c, k, i, f, a, cell, h0, h1, h2, h3, h4, h5, h6, h7, h8, h9⟩ := h
  obtain ⟨k', hi', he⟩ := State.fieldFound?_setVm hvm h1
  exact ⟨c, k', i, f, a, cell, by rw [hvm.findClass]; exact h0, hi', h2, by rw [he]; exact h3, h4, h5, h6, h7, by rw [he]; exact h8, h9⟩
theorem zLS.kept {C n d : String} {A : Nat → Prop} {U : State} {H H1 : Heap} (h : zLS C n d A U H) (hq : ∀ a : Nat, a < H.size → ¬ A a → H1[a]? = H[a]?) : zLS C n d A U H1 := by
  obtain ⟨c, k, i, f, a, cell, h0, h1, h2, h3, h4, h5, h6, h7, h8, h9⟩ := h
  exact ⟨c, k, i, f, a, cell, h0, h1, h2, h3, by rw [hq a (Array.getElem?_eq_some_iff.mp h4).1 h9]; exact h4, h5, h6, h7, h8, h9⟩
theorem zLS.narrow {C n d : String} {A B : Nat → Prop} {U : State} {H : Heap} (h : zLS C n d A U H) (hAB : ∀ q, B q → A q) : zLS C n d B U H := by
  obtain ⟨c, k, i, f, a, cell, h0, h1, h2, h3, h4, h5, h6, h7, h8, h9⟩ := h
  exact ⟨c, k, i, f, a, cell, h0, h1, h2, h3, h4, h5, h6, h7, h8, fun z => h9 (hAB a z)⟩
theorem zLS.use {C n d : String} {A : Nat → Prop} {U : State} {args : Array Value} (h : zLS C n d A U U.heap) : (Cond.laysStatic C n d).before args U = true := by
  obtain ⟨c, k, i, f, a, cell, h0, h1, h2, h3, h4, h5, h6, h7, h8, h9⟩ := h
  exact Cond.laysStatic_of h0 h1 h2 h3 h4 h5 h6 h7 h8
theorem zLS.of {C n d : String} {A : Nat → Prop} {U : State} {args : Array Value} (h : (Cond.laysStatic C n d).before args U = true) (hA : ∀ a : Nat, a < U.heap.size → ¬ A a) : zLS C n d A U U.heap := by
  obtain ⟨c, k, i, f, a, cell, h0, h1, h2, h3, h4, h5, h6, h7, h8⟩ := Cond.laysStatic_spec h
  exact ⟨c, k, i, f, a, cell, h0, h1, h2, h3, h4, h5, h6, h7, h8, hA a (Array.getElem?_eq_some_iff.mp h4).1⟩
/-- a static that holds a reference, and where it lies: both through a walk -/
def zSR (C n d : String) (A : Nat → Prop) (U : State) : Prop := va_Zq C n d A U U.heap ∧ zLS C n d A U U.heap
/-- what the throw needs of the ground -/
def xO (A : Nat → Prop) (U : State) : Prop := (∀ w ∈ oaX, va_Nw w U) ∧ zSR Bundle.tN "UNASSIGNED_STACK" Bundle.steD A U ∧ zSR Bundle.tN "SUPPRESSED_SENTINEL" Bundle.listD A U
def xG (E : zE) (A : Nat → Prop) (U : State) : Prop := xS E A U ∧ xO A U
theorem zSR.gr {C n d : String} {A B : Nat → Prop} {s U : State} {locs : List Loc} (h : zSR C n d A s) (hS : va_S A s.heap U.heap locs) (hW : s.WarmedH U.vm) (hB : ∀ q, B q → A q) : zSR C n d B U :=
  ⟨((h.1.moved hW.alike).kept hS.2.1).narrow hB, ((h.2.moved hW.alike).kept hS.2.1).narrow hB⟩
theorem zSR.call {C n d : String} {B : Nat → Prop} {U : State} {g : JFrame} {mk : MethodId} {a : Array Value} (h : zSR C n d B U) : zSR C n d B (U.calling g mk a) :=
  ⟨va_Zq.moved (u := U) (U := U.calling g mk a) (Vm.Alike.refl U.vm) h.1, zLS.moved (u := U) (U := U.calling g mk a) (Vm.Alike.refl U.vm) h.2⟩
theorem xO_gr : zGr xO := by
  refine ⟨fun A B s U locs h hS hW hB => ?_, fun B U g mk a h => ?_⟩
  · exact ⟨fun w hw => oaG_warm (List.mem_filter.mp hw).2 hW (h.1 w hw), h.2.1.gr hS hW hB, h.2.2.gr hS hW hB⟩
  · exact ⟨fun w hw => va_Nw.same (oaG_on (List.mem_filter.mp hw).2) (u := U) (U := U.calling g mk a) rfl (h.1 w hw), h.2.1.call, h.2.2.call⟩
theorem Zq_isRef {C n d : String} {A : Nat → Prop} {U : State} {args : Array Value} (h : va_Zq C n d A U U.heap) : (Cond.isRef (.static C n d)).before args U = true := by
  rcases h with h | ⟨t, h⟩ <;>
  · obtain ⟨cf, kf, fi, f, a, cell, h1, h2, h3, h4, h5, h6, h7, h8⟩ := h
    simp [Cond.before, Cond.holds, Cond.value, Term.eval, State.fieldNamed?, h1, h2, h4, h5, h6, h7]
theorem xO.atoms {A : Nat → Prop} {U : State} {args : Array Value} (h : xO A U) (ht : ∀ w ∈ zT, w.before args U = true) : ∀ a ∈ oaAll, a.before args U = true := by
  intro a ha
  have hr : a ∈ oaRef → a.before args U = true := by
    intro h1
    have : a = .isRef (.static Bundle.tN "UNASSIGNED_STACK" Bundle.steD) ∨ a = .isRef (.static Bundle.tN "SUPPRESSED_SENTINEL" Bundle.listD) := by simpa [oaRef] using h1
    rcases this with rfl | rfl
    · exact Zq_isRef h.2.1.1
    · exact Zq_isRef h.2.2.1
  rcases oa_4 a ha with h1 | h1 | h1 | h1
  · exact hr h1
  · have : a = .laysStatic Bundle.tN "UNASSIGNED_STACK" Bundle.steD ∨ a = .laysStatic Bundle.tN "SUPPRESSED_SENTINEL" Bundle.listD := by simpa [oaLay] using h1
    rcases this with rfl | rfl
    · exact h.2.1.2.use
    · exact h.2.2.2.use
  · rcases oa_5 a ha with h2 | h2
    · exact hr h2
    · obtain ⟨i, hi⟩ := List.getElem?_of_mem h2
      exact ht a (zt_mem i hi h1)
  · exact va_Nw.use (oaG_on h1) (h.1 a (List.mem_filter.mpr ⟨ha, h1⟩))
