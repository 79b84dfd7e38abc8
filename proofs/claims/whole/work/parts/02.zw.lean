/-! A WORLD OF FIXED CELLS. A heap is three tables of numbers: ints, longs, cells' names. -/
abbrev zH : Type := (Nat → Nat → Int32) × (Nat → Nat → Int64) × (Nat → Nat → Nat)
def zi (h : zH) (k j : Nat) (x : Int32) : zH := (fun a b => if a = k ∧ b = j then x else h.1 a b, h.2)
def zl (h : zH) (k j : Nat) (x : Int64) : zH := (h.1, fun a b => if a = k ∧ b = j then x else h.2.1 a b, h.2.2)
def zr (h : zH) (k j : Nat) (x : Nat) : zH := (h.1, h.2.1, fun a b => if a = k ∧ b = j then x else h.2.2 a b)
/-- how many cells; what cell k is (0: an object of sort n; 1: n ints; 2: n longs); the slots of a sort (0 int, 1 long, 2 the cell k + n, 3 the cell n, else a cell that may change) -/
abbrev zX : Type := Nat × (Nat → Nat × Nat) × (Nat → List (Nat × Nat))
/-- the numbers and slots of the sorts; those of the arrays; where each cell lies -/
abbrev zE : Type := va_G × (ClassId × ClassId) × (Nat → Nat) × (Nat → Nat) × (Nat → Nat)
def zv (E : zE) (h : zH) (k j : Nat) (q : Nat × Nat) : Value := match q.1 with
  | 0 => .int (h.1 k j)
  | 1 => .long (h.2.1 k j)
  | 2 => .ref (E.2.2.1 (k + q.2))
  | 3 => .ref (E.2.2.1 q.2)
  | _ => .ref (E.2.2.1 (h.2.2 k j))
def zf (E : zE) (h : zH) (k : Nat) (t : List (Nat × Nat)) : List Value := (List.range t.length).map (fun j => zv E h k j (t.getD j (0, 0)))
def ze (X : zX) (E : zE) (h : zH) (k : Nat) : va_E := match (X.2.1 k).1 with
  | 0 => .inr ((X.2.1 k).2, zf E h k (X.2.2 (X.2.1 k).2))
  | 1 => .inl (E.2.1.1, (X.2.1 k).2, .inl (h.1 k))
  | _ => .inl (E.2.1.2, (X.2.1 k).2, .inr (.inl (h.2.1 k)))
def zw (X : zX) (E : zE) (h : zH) : va_W := (List.range X.1).map (fun k => (E.2.2.1 k, ze X E h k))
def zty (E : zE) : List (ClassId × FieldType) := [(E.2.1.1, .int), (E.2.1.2, .long)]
def zA (X : zX) (E : zE) (sz : Nat) : Nat → Prop := fun q => (∃ k : Nat, k < X.1 ∧ q = E.2.2.1 k) ∨ sz ≤ q
theorem zw_at {X : zX} {E : zE} {h : zH} {k : Nat} (hk : k < X.1) : (zw X E h)[k]? = some (E.2.2.1 k, ze X E h k) := by
  simp [zw, hk]
theorem ze_obj {X : zX} {E : zE} {h : zH} {k ci : Nat} (hk : X.2.1 k = (0, ci)) : ze X E h k = .inr (ci, zf E h k (X.2.2 ci)) := by
  simp only [ze, hk]
theorem ze_int {X : zX} {E : zE} {h : zH} {k n : Nat} (hk : X.2.1 k = (1, n)) : ze X E h k = .inl (E.2.1.1, n, .inl (h.1 k)) := by
  simp only [ze, hk]
theorem ze_long {X : zX} {E : zE} {h : zH} {k n : Nat} (hk : X.2.1 k = (2, n)) : ze X E h k = .inl (E.2.1.2, n, .inr (.inl (h.2.1 k))) := by
  simp only [ze, hk]
theorem zf_len (E : zE) (h : zH) (k : Nat) (t : List (Nat × Nat)) : (zf E h k t).length = t.length := by simp [zf]
theorem zf_at {E : zE} {h : zH} {k j : Nat} {t : List (Nat × Nat)} {q : Nat × Nat} (hq : t[j]? = some q) : (zf E h k t)[j]? = some (zv E h k j q) := by
  obtain ⟨hj, e⟩ := List.getElem?_eq_some_iff.mp hq
  simp [zf, hj, e]
/-- the cells' places are the same whatever they hold -/
theorem zw_D {X : zX} {E : zE} {A : Nat → Prop} {h h' : zH} (hD : va_D A (zw X E h)) : va_D A (zw X E h') := by
  have key : ∀ (k : Nat) (q : Nat × va_E), (zw X E h')[k]? = some q → ∃ q' : Nat × va_E, (zw X E h)[k]? = some q' ∧ q'.1 = q.1 := by
    intro k q hq
    have hk : k < X.1 := by
      have := (List.getElem?_eq_some_iff.mp hq).1
      simpa [zw] using this
    rw [zw_at hk] at hq
    cases hq
    exact ⟨_, zw_at hk, rfl⟩
  refine ⟨fun i j p q hp hq e => ?_, fun k q hq => ?_⟩
  · obtain ⟨p', hp', e1⟩ := key i p hp
    obtain ⟨q', hq', e2⟩ := key j q hq
    exact hD.1 i j p' q' hp' hq' (by rw [e1, e2, e])
  · obtain ⟨q', hq', e2⟩ := key k q hq
    rw [← e2]
    exact hD.2 k q' hq'
theorem zw_ext {X : zX} {E : zE} {h h' : zH} {k : Nat} {a : Nat × va_E} (hk : k < X.1) (ha : a = (E.2.2.1 k, ze X E h' k)) (ho : ∀ j : Nat, j ≠ k → ze X E h' j = ze X E h j) : (zw X E h).set k a = zw X E h' := by
  apply List.ext_getElem?
  intro j
  by_cases hj : j < X.1
  · by_cases e : k = j
    · subst e
      rw [zw_at hk, List.getElem?_set_self (by simpa [zw] using hk), ha]
    · rw [List.getElem?_set_ne e, zw_at hj, zw_at hj, ho j (Ne.symm e)]
  · rw [List.getElem?_eq_none (by simpa [zw] using Nat.le_of_not_lt hj), List.getElem?_eq_none (by simpa [zw] using Nat.le_of_not_lt hj)]
theorem zi_ne {h : zH} {k j : Nat} {x : Int32} {a : Nat} (ha : a ≠ k) : (zi h k j x).1 a = h.1 a := by
  funext b
  simp [zi, ha]
theorem zl_ne {h : zH} {k j : Nat} {x : Int64} {a : Nat} (ha : a ≠ k) : (zl h k j x).2.1 a = h.2.1 a := by
  funext b
  simp [zl, ha]
theorem zr_ne {h : zH} {k j : Nat} {x : Nat} {a : Nat} (ha : a ≠ k) : (zr h k j x).2.2 a = h.2.2 a := by
  funext b
  simp [zr, ha]
theorem zi_self (h : zH) (k j : Nat) (x : Int32) : (zi h k j x).1 k = upd (h.1 k) j x := by
  funext b
  simp [zi, upd]
theorem zl_self (h : zH) (k j : Nat) (x : Int64) : (zl h k j x).2.1 k = vp_updL (h.2.1 k) j x := by
  funext b
  simp [zl, vp_updL]
theorem ze_zi_ne {X : zX} {E : zE} {h : zH} {k j : Nat} {x : Int32} {a : Nat} (ha : a ≠ k) : ze X E (zi h k j x) a = ze X E h a := by
  have e := zi_ne (h := h) (j := j) (x := x) ha
  simp only [ze, zf, zv, e]
  rfl
theorem ze_zl_ne {X : zX} {E : zE} {h : zH} {k j : Nat} {x : Int64} {a : Nat} (ha : a ≠ k) : ze X E (zl h k j x) a = ze X E h a := by
  have e := zl_ne (h := h) (j := j) (x := x) ha
  simp only [ze, zf, zv, e]
  rfl
theorem ze_zr_ne {X : zX} {E : zE} {h : zH} {k j : Nat} {x : Nat} {a : Nat} (ha : a ≠ k) : ze X E (zr h k j x) a = ze X E h a := by
  have e := zr_ne (h := h) (j := j) (x := x) ha
  simp only [ze, zf, zv, e]
  rfl
theorem zw_int {X : zX} {E : zE} {h : zH} {k n j : Nat} {x : Int32} (hk : k < X.1) (hX : X.2.1 k = (1, n)) : (zw X E h).set k (E.2.2.1 k, .inl (E.2.1.1, n, .inl (upd (h.1 k) j x))) = zw X E (zi h k j x) :=
  zw_ext hk (by rw [ze_int hX, zi_self]) (fun _ ha => ze_zi_ne ha)
theorem zw_long {X : zX} {E : zE} {h : zH} {k n j : Nat} {x : Int64} (hk : k < X.1) (hX : X.2.1 k = (2, n)) : (zw X E h).set k (E.2.2.1 k, .inl (E.2.1.2, n, .inr (.inl (vp_updL (h.2.1 k) j x)))) = zw X E (zl h k j x) :=
  zw_ext hk (by rw [ze_long hX, zl_self]) (fun _ ha => ze_zl_ne ha)
theorem zf_set {E : zE} {h h' : zH} {k j : Nat} {t : List (Nat × Nat)} {q : Nat × Nat} {v : Value} (hq : t[j]? = some q) (hv : v = zv E h' k j q) (ho : ∀ (b : Nat) (r : Nat × Nat), b ≠ j → zv E h' k b r = zv E h k b r) : (zf E h k t).set j v = zf E h' k t := by
  have hj : j < t.length := (List.getElem?_eq_some_iff.mp hq).1
  apply List.ext_getElem?
  intro b
  by_cases hb : b < t.length
  · obtain ⟨r, hr⟩ : ∃ r, t[b]? = some r := ⟨_, List.getElem?_eq_getElem hb⟩
    by_cases e : j = b
    · subst e
      rw [List.getElem?_set_self (by rw [zf_len]; exact hj), zf_at hq, hv]
    · rw [List.getElem?_set_ne e, zf_at hr, zf_at hr, ho b r (Ne.symm e)]
  · rw [List.getElem?_eq_none (by rw [List.length_set, zf_len]; exact Nat.le_of_not_lt hb), List.getElem?_eq_none (by rw [zf_len]; exact Nat.le_of_not_lt hb)]
theorem zw_fi {X : zX} {E : zE} {h : zH} {k ci j n : Nat} {x : Int32} (hk : k < X.1) (hX : X.2.1 k = (0, ci)) (hq : (X.2.2 ci)[j]? = some (0, n)) : (zw X E h).set k (E.2.2.1 k, .inr (ci, (zf E h k (X.2.2 ci)).set j (.int x))) = zw X E (zi h k j x) := by
  refine zw_ext hk ?_ (fun _ ha => ze_zi_ne ha)
  rw [ze_obj hX, zf_set (h' := zi h k j x) hq (by simp [zv, zi]) (fun b r hb => by simp [zv, zi, hb])]
theorem zw_fl {X : zX} {E : zE} {h : zH} {k ci j n : Nat} {x : Int64} (hk : k < X.1) (hX : X.2.1 k = (0, ci)) (hq : (X.2.2 ci)[j]? = some (1, n)) : (zw X E h).set k (E.2.2.1 k, .inr (ci, (zf E h k (X.2.2 ci)).set j (.long x))) = zw X E (zl h k j x) := by
  refine zw_ext hk ?_ (fun _ ha => ze_zl_ne ha)
  rw [ze_obj hX, zf_set (h' := zl h k j x) hq (by simp [zv, zl]) (fun b r hb => by simp [zv, zl, hb])]
theorem zw_fr {X : zX} {E : zE} {h : zH} {k ci j n : Nat} {x : Nat} (hk : k < X.1) (hX : X.2.1 k = (0, ci)) (hq : (X.2.2 ci)[j]? = some (4, n)) : (zw X E h).set k (E.2.2.1 k, .inr (ci, (zf E h k (X.2.2 ci)).set j (.ref (E.2.2.1 x)))) = zw X E (zr h k j x) := by
  refine zw_ext hk ?_ (fun _ ha => ze_zr_ne ha)
  rw [ze_obj hX, zf_set (h' := zr h k j x) hq (by simp [zv, zr]) (fun b r hb => by simp [zv, zr, hb])]

def zLH (ls : Array Slot) (n : Nat) (lv : List (Option Value)) : Prop := ls.size = n ∧ lv_wf ls ∧ ∀ (i : Nat) (v : Value), lv[i]? = some (some v) → ls[i]? = some (.val v)
def zas (lv : List (Option Value)) : List (Nat × Value) := (List.range lv.length).filterMap (fun i => (lv.getD i none).map (fun v => (i, v)))
theorem zas_mem {lv : List (Option Value)} {i : Nat} {v : Value} : (i, v) ∈ zas lv ↔ lv[i]? = some (some v) := by
  simp only [zas, List.mem_filterMap, List.mem_range]
  constructor
  · rintro ⟨a, ha, hb⟩
    cases hq : lv.getD a none with
    | none => rw [hq] at hb; cases hb
    | some w =>
      rw [hq] at hb
      simp only [Option.map_some, Option.some.injEq, Prod.mk.injEq] at hb
      obtain ⟨rfl, rfl⟩ := hb
      rw [List.getD_eq_getElem?_getD] at hq
      rw [List.getElem?_eq_getElem ha] at hq ⊢
      simp only [Option.getD_some] at hq
      rw [hq]
  · intro h
    have ha : i < lv.length := (List.getElem?_eq_some_iff.mp h).1
    exact ⟨i, ha, by rw [List.getD_eq_getElem?_getD, h]; rfl⟩
theorem zLH.has {ls : Array Slot} {n : Nat} {lv : List (Option Value)} (h : zLH ls n lv) : lv_has ls n (zas lv) := ⟨h.1, h.2.1, fun q hq => h.2.2 q.1 q.2 (zas_mem.mp hq)⟩
/-- the place ahead holds no long -/
def zpv (lv : List (Option Value)) : Nat → Bool
  | 0 => true
  | i + 1 => match lv[i]? with
    | some (some w) => w.category == 1
    | _ => true
theorem zpv_ok {lv : List (Option Value)} {i j : Nat} {w : Value} (h : zpv lv i = true) (hj : lv[j]? = some (some w)) (e : j + 1 = i) : ¬ w.category = 2 := by
  subst e
  simp only [zpv, hj] at h
  intro q
  rw [q] at h
  cases h
theorem zLH.st1 {ls : Array Slot} {n i : Nat} {lv : List (Option Value)} {v : Value} (h : lv_has ls n ((i, v) :: (zas lv).filter (fun q => !(q.1 == i) && !(q.1 + 1 == i && q.2.category == 2)))) (hp : zpv lv i = true) : zLH ls n (lv.set i (some v)) := by
  refine ⟨h.1, h.2.1, fun j w hw => ?_⟩
  by_cases e : i = j
  · subst e
    have hl : i < lv.length := by
      have := (List.getElem?_eq_some_iff.mp hw).1
      simpa using this
    rw [List.getElem?_set_self hl] at hw
    cases hw
    exact h.2.2 (i, v) List.mem_cons_self
  · rw [List.getElem?_set_ne e] at hw
    refine h.2.2 (j, w) (List.mem_cons_of_mem _ (List.mem_filter.mpr ⟨zas_mem.mpr hw, ?_⟩))
    have h2 : j + 1 = i → ¬ w.category = 2 := zpv_ok hp hw
    simp only [Bool.and_eq_true, Bool.not_eq_true', beq_eq_false_iff_ne, ne_eq, Bool.and_eq_false_imp, beq_iff_eq]
    exact ⟨fun q => e q.symm, h2⟩
theorem zLH.st2 {ls : Array Slot} {n i : Nat} {lv : List (Option Value)} {v : Value} (h : lv_has ls n ((i, v) :: (zas lv).filter (fun q => !(q.1 == i) && (!(q.1 == i + 1) && !(q.1 + 1 == i && q.2.category == 2))))) (hp : zpv lv i = true) : zLH ls n ((lv.set i (some v)).set (i + 1) none) := by
  refine ⟨h.1, h.2.1, fun j w hw => ?_⟩
  by_cases e1 : i + 1 = j
  · subst e1
    have hl := (List.getElem?_eq_some_iff.mp hw).1
    rw [List.getElem?_set_self (by simpa using hl)] at hw
    cases hw
  rw [List.getElem?_set_ne e1] at hw
  by_cases e : i = j
  · subst e
    have hl : i < lv.length := by
      have := (List.getElem?_eq_some_iff.mp hw).1
      simpa using this
    rw [List.getElem?_set_self hl] at hw
    cases hw
    exact h.2.2 (i, v) List.mem_cons_self
  · rw [List.getElem?_set_ne e] at hw
    refine h.2.2 (j, w) (List.mem_cons_of_mem _ (List.mem_filter.mpr ⟨zas_mem.mpr hw, ?_⟩))
    have h2 : j + 1 = i → ¬ w.category = 2 := zpv_ok hp hw
    simp only [Bool.and_eq_true, Bool.not_eq_true', beq_eq_false_iff_ne, ne_eq, Bool.and_eq_false_imp, beq_iff_eq]
    exact ⟨fun q => e q.symm, fun q => e1 q.symm, h2⟩

def zav : List Value → List (Option Value)
  | [] => []
  | v :: vs => if v.category = 2 then some v :: none :: zav vs else some v :: zav vs
theorem zav_mem : ∀ (vs : List Value) (b i : Nat) (v : Value), (zav vs)[i]? = some (some v) → (b + i, v) ∈ lv_args b vs
  | [], _, i, v, h => by simp [zav] at h
  | w :: vs, b, i, v, h => by
    by_cases hc : w.category = 2
    · simp only [zav, hc, if_true] at h
      match i, h with
      | 0, h =>
        simp only [List.getElem?_cons_zero, Option.some.injEq] at h
        subst h
        exact List.mem_cons_self
      | 1, h => simp at h
      | i + 2, h =>
        simp only [List.getElem?_cons_succ] at h
        have := zav_mem vs (b + 2) i v h
        rw [show b + (i + 2) = b + 2 + i by omega]
        simp only [lv_args, hc, if_true]
        exact List.mem_cons_of_mem _ this
    · simp only [zav, hc, if_false] at h
      match i, h with
      | 0, h =>
        simp only [List.getElem?_cons_zero, Option.some.injEq] at h
        subst h
        exact List.mem_cons_self
      | i + 1, h =>
        simp only [List.getElem?_cons_succ] at h
        have := zav_mem vs (b + 1) i v h
        rw [show b + (i + 1) = b + 1 + i by omega]
        simp only [lv_args, hc, if_false]
        exact List.mem_cons_of_mem _ this
def zlv (vs : List Value) (n : Nat) : List (Option Value) := zav vs ++ List.replicate (n - (zav vs).length) none
theorem zlv_in {ls : Array Slot} {n : Nat} {vs : List Value} (h : lv_has ls n (lv_args 0 vs)) : zLH ls n (zlv vs n) := by
  refine ⟨h.1, h.2.1, fun i v hv => ?_⟩
  unfold zlv at hv
  by_cases hi : i < (zav vs).length
  · rw [List.getElem?_append_left hi] at hv
    have := h.2.2 _ (zav_mem vs 0 i v hv)
    simpa using this
  · rw [List.getElem?_append_right (Nat.le_of_not_lt hi), List.getElem?_replicate] at hv
    split at hv <;> cases hv
/-! THE WALK -/
def zrm (d w : Nat) : Room := { frames := d, cells := 0, slots := 0, locals := w }
section ZZ

variable {p : Program} {l : Launch} {e : Env} {R : Room} {s : State} {m : MethodId} {args : Array Value} {below : List Frame} {meth : Method} {c : Code} {Q : State → Prop}
variable {cc : ByteArray} {nL : Nat} {T : List Cond} {own : String} {X : zX} {E : zE} {cl : List vw_C} {N : List Cond} {A : Nat → Prop} {kc ks : Nat} {G : (Nat → Prop) → State → Prop}
variable {h : zH} {pc : Nat} {lv : List (Option Value)} {rest : List Value}


def ZW (p : Program) (l : Launch) (e : Env) (R : Room) (s : State) (m : MethodId) (args : Array Value) (below : List Frame) (meth : Method) (c : Code) (Q : State → Prop) (X : zX) (E : zE) (cl : List vw_C) (A : Nat → Prop) (H0 : Heap) (nL kc ks : Nat) (h : zH) (pc : Nat) (lv : List (Option Value)) (st : List Value) : Prop :=
  ∀ (H : Heap) (locs : List Loc) (ls : Array Slot), va_P E.1 cl (zw X E h) H → va_D A (zw X E h) → va_S A H0 H locs → zLH ls nL lv → W p l e R s m args below meth c H locs kc ks Q (F0 m pc ls st)
/-- what holds all the way through a method -/
def ZC (p : Program) (R : Room) (s : State) (m : MethodId) (args : Array Value) (meth : Method) (c : Code) (cc : ByteArray) (nL : Nat) (T : List Cond) (own : String) (E : zE) (cl : List vw_C) (N : List Cond) (G : (Nat → Prop) → State → Prop) (A : Nat → Prop) (X : zX) (kc ks : Nat) (H0 : Heap) : Prop :=
  CallFix p m c cc nL s args T own ∧ va_K E.1 cl (zty E) s ∧ (∀ w ∈ N, va_Nw w s) ∧ meth.locks = false ∧ (kc ≤ R.cells ∧ ks ≤ R.slots) ∧ (∀ q : Nat, H0.size ≤ q → A q) ∧ G A s
theorem z_iconst (C : ZC p R s m args meth c cc nL T own E cl N G A X kc ks s.heap) {n : Int} {v : Int32} (hd : decode cc pc = .ok (.iconst n, 1)) (hv : Int32.ofInt n = v) (k : ZW p l e R s m args below meth c Q X E cl A s.heap nL kc ks h (pc + 1) lv (.int v :: rest)) : ZW p l e R s m args below meth c Q X E cl A s.heap nL kc ks h (pc) lv (rest) := fun H locs ls hP hD hS hL => lv_iconst C.1.1 C.1.2.1 hd hv (k H locs ls hP hD hS hL)
theorem z_bipush (C : ZC p R s m args meth c cc nL T own E cl N G A X kc ks s.heap) {n : Int} {v : Int32} (hd : decode cc pc = .ok (.bipush n, 2)) (hv : (Int8.ofInt n).toInt32 = v) (k : ZW p l e R s m args below meth c Q X E cl A s.heap nL kc ks h (pc + 2) lv (.int v :: rest)) : ZW p l e R s m args below meth c Q X E cl A s.heap nL kc ks h (pc) lv (rest) := fun H locs ls hP hD hS hL => lv_bipush C.1.1 C.1.2.1 hd hv (k H locs ls hP hD hS hL)
theorem z_sipush (C : ZC p R s m args meth c cc nL T own E cl N G A X kc ks s.heap) {n : Int} {v : Int32} (hd : decode cc pc = .ok (.sipush n, 3)) (hv : (Int16.ofInt n).toInt32 = v) (k : ZW p l e R s m args below meth c Q X E cl A s.heap nL kc ks h (pc + 3) lv (.int v :: rest)) : ZW p l e R s m args below meth c Q X E cl A s.heap nL kc ks h (pc) lv (rest) := fun H locs ls hP hD hS hL => lv_sipush C.1.1 C.1.2.1 hd hv (k H locs ls hP hD hS hL)
theorem z_lconst (C : ZC p R s m args meth c cc nL T own E cl N G A X kc ks s.heap) {n : Fin 2} {v : Int64} (hd : decode cc pc = .ok (.lconst n, 1)) (hv : Int64.ofNat (n : Nat) = v) (k : ZW p l e R s m args below meth c Q X E cl A s.heap nL kc ks h (pc + 1) lv (.long v :: rest)) : ZW p l e R s m args below meth c Q X E cl A s.heap nL kc ks h (pc) lv (rest) := fun H locs ls hP hD hS hL => lv_lconst C.1.1 C.1.2.1 hd hv (k H locs ls hP hD hS hL)
theorem z_null (C : ZC p R s m args meth c cc nL T own E cl N G A X kc ks s.heap)  (hd : decode cc pc = .ok (.aconst_null, 1)) (k : ZW p l e R s m args below meth c Q X E cl A s.heap nL kc ks h (pc + 1) lv (.null :: rest)) : ZW p l e R s m args below meth c Q X E cl A s.heap nL kc ks h (pc) lv (rest) := fun H locs ls hP hD hS hL => lv_null C.1.1 C.1.2.1 hd (k H locs ls hP hD hS hL)
theorem z_ldc (C : ZC p R s m args meth c cc nL T own E cl N G A X kc ks s.heap) {i : Nat} {v : Int32} (hw : Jvm.Cond.constant own i v ∈ T) (hd : decode cc pc = .ok (.ldc i, 2)) (k : ZW p l e R s m args below meth c Q X E cl A s.heap nL kc ks h (pc + 2) lv (.int v :: rest)) : ZW p l e R s m args below meth c Q X E cl A s.heap nL kc ks h (pc) lv (rest) := fun H locs ls hP hD hS hL => lv_ldc C.1.1 C.1.2.1 C.1.2.2.2.1 (C.1.2.2.2.2 _ hw) hd (k H locs ls hP hD hS hL)
theorem z_ldc2 (C : ZC p R s m args meth c cc nL T own E cl N G A X kc ks s.heap) {i : Nat} {v : Int64} (hw : Jvm.Cond.constantLong own i v ∈ T) (hd : decode cc pc = .ok (.ldc2_w i, 3)) (k : ZW p l e R s m args below meth c Q X E cl A s.heap nL kc ks h (pc + 3) lv (.long v :: rest)) : ZW p l e R s m args below meth c Q X E cl A s.heap nL kc ks h (pc) lv (rest) := fun H locs ls hP hD hS hL => lv_ldc2 C.1.1 C.1.2.1 C.1.2.2.2.1 (C.1.2.2.2.2 _ hw) hd (k H locs ls hP hD hS hL)
theorem z_ldcw (C : ZC p R s m args meth c cc nL T own E cl N G A X kc ks s.heap) {i : Nat} {v : Int32} (hw : Jvm.Cond.constant own i v ∈ T) (hd : decode cc pc = .ok (.ldc_w i, 3)) (k : ZW p l e R s m args below meth c Q X E cl A s.heap nL kc ks h (pc + 3) lv (.int v :: rest)) : ZW p l e R s m args below meth c Q X E cl A s.heap nL kc ks h (pc) lv (rest) := fun H locs ls hP hD hS hL => lv_ldcw C.1.1 C.1.2.1 C.1.2.2.2.1 (C.1.2.2.2.2 _ hw) hd (k H locs ls hP hD hS hL)
theorem z_ldcS (C : ZC p R s m args meth c cc nL T own E cl N G A X kc ks s.heap) {i q : Nat} {tx : String} (hz : vk_R own i tx q s) (hd : decode cc pc = .ok (.ldc i, 2)) (k : ZW p l e R s m args below meth c Q X E cl A s.heap nL kc ks h (pc + 2) lv (.ref q :: rest)) : ZW p l e R s m args below meth c Q X E cl A s.heap nL kc ks h (pc) lv (rest) := fun H locs ls hP hD hS hL => va_ldcS C.1.1 C.1.2.1 C.1.2.2.2.1 hz hd (k H locs ls hP hD hS hL)
theorem z_iload_n (C : ZC p R s m args meth c cc nL T own E cl N G A X kc ks s.heap) {f : Fin 4} {i : Nat} {x : Int32} (hd : decode cc pc = .ok (.iload_n f, 1)) (hi : (f : Nat) = i) (hl : lv[i]? = some (some (.int x))) (k : ZW p l e R s m args below meth c Q X E cl A s.heap nL kc ks h (pc + 1) lv (.int x :: rest)) : ZW p l e R s m args below meth c Q X E cl A s.heap nL kc ks h (pc) lv (rest) := fun H locs ls hP hD hS hL => lv_iload_n C.1.1 C.1.2.1 hd hi (hL.2.2 _ _ hl) (k H locs ls hP hD hS hL)
theorem z_iload (C : ZC p R s m args meth c cc nL T own E cl N G A X kc ks s.heap) {i : Nat} {x : Int32} (hd : decode cc pc = .ok (.iload i, 2)) (hl : lv[i]? = some (some (.int x))) (k : ZW p l e R s m args below meth c Q X E cl A s.heap nL kc ks h (pc + 2) lv (.int x :: rest)) : ZW p l e R s m args below meth c Q X E cl A s.heap nL kc ks h (pc) lv (rest) := fun H locs ls hP hD hS hL => lv_iload C.1.1 C.1.2.1 hd (hL.2.2 _ _ hl) (k H locs ls hP hD hS hL)
theorem z_lload_n (C : ZC p R s m args meth c cc nL T own E cl N G A X kc ks s.heap) {f : Fin 4} {i : Nat} {x : Int64} (hd : decode cc pc = .ok (.lload_n f, 1)) (hi : (f : Nat) = i) (hl : lv[i]? = some (some (.long x))) (k : ZW p l e R s m args below meth c Q X E cl A s.heap nL kc ks h (pc + 1) lv (.long x :: rest)) : ZW p l e R s m args below meth c Q X E cl A s.heap nL kc ks h (pc) lv (rest) := fun H locs ls hP hD hS hL => lv_lload_n C.1.1 C.1.2.1 hd hi (hL.2.2 _ _ hl) (k H locs ls hP hD hS hL)
theorem z_lload (C : ZC p R s m args meth c cc nL T own E cl N G A X kc ks s.heap) {i : Nat} {x : Int64} (hd : decode cc pc = .ok (.lload i, 2)) (hl : lv[i]? = some (some (.long x))) (k : ZW p l e R s m args below meth c Q X E cl A s.heap nL kc ks h (pc + 2) lv (.long x :: rest)) : ZW p l e R s m args below meth c Q X E cl A s.heap nL kc ks h (pc) lv (rest) := fun H locs ls hP hD hS hL => lv_lload C.1.1 C.1.2.1 hd (hL.2.2 _ _ hl) (k H locs ls hP hD hS hL)
theorem z_aload_n (C : ZC p R s m args meth c cc nL T own E cl N G A X kc ks s.heap) {f : Fin 4} {i : Nat} {x : Nat} (hd : decode cc pc = .ok (.aload_n f, 1)) (hi : (f : Nat) = i) (hl : lv[i]? = some (some (.ref x))) (k : ZW p l e R s m args below meth c Q X E cl A s.heap nL kc ks h (pc + 1) lv (.ref x :: rest)) : ZW p l e R s m args below meth c Q X E cl A s.heap nL kc ks h (pc) lv (rest) := fun H locs ls hP hD hS hL => lv_aload_n C.1.1 C.1.2.1 hd hi (hL.2.2 _ _ hl) (k H locs ls hP hD hS hL)
theorem z_aload (C : ZC p R s m args meth c cc nL T own E cl N G A X kc ks s.heap) {i : Nat} {x : Nat} (hd : decode cc pc = .ok (.aload i, 2)) (hl : lv[i]? = some (some (.ref x))) (k : ZW p l e R s m args below meth c Q X E cl A s.heap nL kc ks h (pc + 2) lv (.ref x :: rest)) : ZW p l e R s m args below meth c Q X E cl A s.heap nL kc ks h (pc) lv (rest) := fun H locs ls hP hD hS hL => lv_aload C.1.1 C.1.2.1 hd (hL.2.2 _ _ hl) (k H locs ls hP hD hS hL)
theorem z_istore_n (C : ZC p R s m args meth c cc nL T own E cl N G A X kc ks s.heap) {f : Fin 4} {i : Nat} {x : Int32} (hd : decode cc pc = .ok (.istore_n f, 1)) (hi : (f : Nat) = i) (hn : i < nL) (hp : zpv lv i = true) (k : ZW p l e R s m args below meth c Q X E cl A s.heap nL kc ks h (pc + 1) (lv.set i (some (.int x))) (rest)) : ZW p l e R s m args below meth c Q X E cl A s.heap nL kc ks h (pc) lv (.int x :: rest) := fun H locs ls hP hD hS hL => lv_istore_n C.1.1 C.1.2.1 hd hi hL.has hn rfl (fun ls2 hL2 => k H locs ls2 hP hD hS (zLH.st1 hL2 hp))
theorem z_istore (C : ZC p R s m args meth c cc nL T own E cl N G A X kc ks s.heap) {i : Nat} {x : Int32} (hd : decode cc pc = .ok (.istore i, 2)) (hn : i < nL) (hp : zpv lv i = true) (k : ZW p l e R s m args below meth c Q X E cl A s.heap nL kc ks h (pc + 2) (lv.set i (some (.int x))) (rest)) : ZW p l e R s m args below meth c Q X E cl A s.heap nL kc ks h (pc) lv (.int x :: rest) := fun H locs ls hP hD hS hL => lv_istore C.1.1 C.1.2.1 hd hL.has hn rfl (fun ls2 hL2 => k H locs ls2 hP hD hS (zLH.st1 hL2 hp))
theorem z_astore_n (C : ZC p R s m args meth c cc nL T own E cl N G A X kc ks s.heap) {f : Fin 4} {i : Nat} {x : Nat} (hd : decode cc pc = .ok (.astore_n f, 1)) (hi : (f : Nat) = i) (hn : i < nL) (hp : zpv lv i = true) (k : ZW p l e R s m args below meth c Q X E cl A s.heap nL kc ks h (pc + 1) (lv.set i (some (.ref x))) (rest)) : ZW p l e R s m args below meth c Q X E cl A s.heap nL kc ks h (pc) lv (.ref x :: rest) := fun H locs ls hP hD hS hL => lv_astore_n C.1.1 C.1.2.1 hd hi hL.has hn rfl (fun ls2 hL2 => k H locs ls2 hP hD hS (zLH.st1 hL2 hp))
theorem z_astore (C : ZC p R s m args meth c cc nL T own E cl N G A X kc ks s.heap) {i : Nat} {x : Nat} (hd : decode cc pc = .ok (.astore i, 2)) (hn : i < nL) (hp : zpv lv i = true) (k : ZW p l e R s m args below meth c Q X E cl A s.heap nL kc ks h (pc + 2) (lv.set i (some (.ref x))) (rest)) : ZW p l e R s m args below meth c Q X E cl A s.heap nL kc ks h (pc) lv (.ref x :: rest) := fun H locs ls hP hD hS hL => lv_astore C.1.1 C.1.2.1 hd hL.has hn rfl (fun ls2 hL2 => k H locs ls2 hP hD hS (zLH.st1 hL2 hp))
theorem z_lstore_n (C : ZC p R s m args meth c cc nL T own E cl N G A X kc ks s.heap) {f : Fin 4} {i : Nat} {x : Int64} (hd : decode cc pc = .ok (.lstore_n f, 1)) (hi : (f : Nat) = i) (hn : i + 1 < nL) (hp : zpv lv i = true) (k : ZW p l e R s m args below meth c Q X E cl A s.heap nL kc ks h (pc + 1) ((lv.set i (some (.long x))).set (i + 1) none) (rest)) : ZW p l e R s m args below meth c Q X E cl A s.heap nL kc ks h (pc) lv (.long x :: rest) := fun H locs ls hP hD hS hL => lv_lstore_n C.1.1 C.1.2.1 hd hi hL.has hn rfl (fun ls2 hL2 => k H locs ls2 hP hD hS (zLH.st2 hL2 hp))
theorem z_lstore (C : ZC p R s m args meth c cc nL T own E cl N G A X kc ks s.heap) {i : Nat} {x : Int64} (hd : decode cc pc = .ok (.lstore i, 2)) (hn : i + 1 < nL) (hp : zpv lv i = true) (k : ZW p l e R s m args below meth c Q X E cl A s.heap nL kc ks h (pc + 2) ((lv.set i (some (.long x))).set (i + 1) none) (rest)) : ZW p l e R s m args below meth c Q X E cl A s.heap nL kc ks h (pc) lv (.long x :: rest) := fun H locs ls hP hD hS hL => lv_lstore C.1.1 C.1.2.1 hd hL.has hn rfl (fun ls2 hL2 => k H locs ls2 hP hD hS (zLH.st2 hL2 hp))
theorem z_iinc (C : ZC p R s m args meth c cc nL T own E cl N G A X kc ks s.heap) {i : Nat} {n : Int} {x v : Int32} (hd : decode cc pc = .ok (.iinc i n, 3)) (hl : lv[i]? = some (some (.int x))) (hv : x + Int32.ofInt n = v) (hn : i < nL) (hp : zpv lv i = true) (k : ZW p l e R s m args below meth c Q X E cl A s.heap nL kc ks h (pc + 3) (lv.set i (some (.int v))) (rest)) : ZW p l e R s m args below meth c Q X E cl A s.heap nL kc ks h (pc) lv (rest) := by
  intro H locs ls hP hD hS hL
  obtain ⟨q, hq⟩ := List.getElem?_of_mem (zas_mem.mpr hl)
  exact lv_iinc C.1.1 C.1.2.1 hd hL.has hq hv hn rfl (fun ls2 hL2 => k H locs ls2 hP hD hS (zLH.st1 hL2 hp))
theorem z_iadd (C : ZC p R s m args meth c cc nL T own E cl N G A X kc ks s.heap) {x y : Int32} (hd : decode cc pc = .ok (.iadd, 1)) (k : ZW p l e R s m args below meth c Q X E cl A s.heap nL kc ks h (pc + 1) lv (.int (x + y) :: rest)) : ZW p l e R s m args below meth c Q X E cl A s.heap nL kc ks h (pc) lv (.int y :: .int x :: rest) := fun H locs ls hP hD hS hL => lv_iadd C.1.1 C.1.2.1 hd (k H locs ls hP hD hS hL)
theorem z_isub (C : ZC p R s m args meth c cc nL T own E cl N G A X kc ks s.heap) {x y : Int32} (hd : decode cc pc = .ok (.isub, 1)) (k : ZW p l e R s m args below meth c Q X E cl A s.heap nL kc ks h (pc + 1) lv (.int (x - y) :: rest)) : ZW p l e R s m args below meth c Q X E cl A s.heap nL kc ks h (pc) lv (.int y :: .int x :: rest) := fun H locs ls hP hD hS hL => lv_isub C.1.1 C.1.2.1 hd (k H locs ls hP hD hS hL)
theorem z_imul (C : ZC p R s m args meth c cc nL T own E cl N G A X kc ks s.heap) {x y : Int32} (hd : decode cc pc = .ok (.imul, 1)) (k : ZW p l e R s m args below meth c Q X E cl A s.heap nL kc ks h (pc + 1) lv (.int (x * y) :: rest)) : ZW p l e R s m args below meth c Q X E cl A s.heap nL kc ks h (pc) lv (.int y :: .int x :: rest) := fun H locs ls hP hD hS hL => lv_imul C.1.1 C.1.2.1 hd (k H locs ls hP hD hS hL)
theorem z_iand (C : ZC p R s m args meth c cc nL T own E cl N G A X kc ks s.heap) {x y : Int32} (hd : decode cc pc = .ok (.iand, 1)) (k : ZW p l e R s m args below meth c Q X E cl A s.heap nL kc ks h (pc + 1) lv (.int (x &&& y) :: rest)) : ZW p l e R s m args below meth c Q X E cl A s.heap nL kc ks h (pc) lv (.int y :: .int x :: rest) := fun H locs ls hP hD hS hL => lv_iand C.1.1 C.1.2.1 hd (k H locs ls hP hD hS hL)
theorem z_ior (C : ZC p R s m args meth c cc nL T own E cl N G A X kc ks s.heap) {x y : Int32} (hd : decode cc pc = .ok (.ior, 1)) (k : ZW p l e R s m args below meth c Q X E cl A s.heap nL kc ks h (pc + 1) lv (.int (x ||| y) :: rest)) : ZW p l e R s m args below meth c Q X E cl A s.heap nL kc ks h (pc) lv (.int y :: .int x :: rest) := fun H locs ls hP hD hS hL => lv_ior C.1.1 C.1.2.1 hd (k H locs ls hP hD hS hL)
theorem z_ixor (C : ZC p R s m args meth c cc nL T own E cl N G A X kc ks s.heap) {x y : Int32} (hd : decode cc pc = .ok (.ixor, 1)) (k : ZW p l e R s m args below meth c Q X E cl A s.heap nL kc ks h (pc + 1) lv (.int (x ^^^ y) :: rest)) : ZW p l e R s m args below meth c Q X E cl A s.heap nL kc ks h (pc) lv (.int y :: .int x :: rest) := fun H locs ls hP hD hS hL => lv_ixor C.1.1 C.1.2.1 hd (k H locs ls hP hD hS hL)
theorem z_ishl (C : ZC p R s m args meth c cc nL T own E cl N G A X kc ks s.heap) {x y : Int32} (hd : decode cc pc = .ok (.ishl, 1)) (k : ZW p l e R s m args below meth c Q X E cl A s.heap nL kc ks h (pc + 1) lv (.int (x <<< (y &&& 31)) :: rest)) : ZW p l e R s m args below meth c Q X E cl A s.heap nL kc ks h (pc) lv (.int y :: .int x :: rest) := fun H locs ls hP hD hS hL => lv_ishl C.1.1 C.1.2.1 hd (k H locs ls hP hD hS hL)
theorem z_ishr (C : ZC p R s m args meth c cc nL T own E cl N G A X kc ks s.heap) {x y : Int32} (hd : decode cc pc = .ok (.ishr, 1)) (k : ZW p l e R s m args below meth c Q X E cl A s.heap nL kc ks h (pc + 1) lv (.int (x >>> (y &&& 31)) :: rest)) : ZW p l e R s m args below meth c Q X E cl A s.heap nL kc ks h (pc) lv (.int y :: .int x :: rest) := fun H locs ls hP hD hS hL => lv_ishr C.1.1 C.1.2.1 hd (k H locs ls hP hD hS hL)
theorem z_ladd (C : ZC p R s m args meth c cc nL T own E cl N G A X kc ks s.heap) {x y : Int64} (hd : decode cc pc = .ok (.ladd, 1)) (k : ZW p l e R s m args below meth c Q X E cl A s.heap nL kc ks h (pc + 1) lv (.long (x + y) :: rest)) : ZW p l e R s m args below meth c Q X E cl A s.heap nL kc ks h (pc) lv (.long y :: .long x :: rest) := fun H locs ls hP hD hS hL => lv_ladd C.1.1 C.1.2.1 hd (k H locs ls hP hD hS hL)
theorem z_lsub (C : ZC p R s m args meth c cc nL T own E cl N G A X kc ks s.heap) {x y : Int64} (hd : decode cc pc = .ok (.lsub, 1)) (k : ZW p l e R s m args below meth c Q X E cl A s.heap nL kc ks h (pc + 1) lv (.long (x - y) :: rest)) : ZW p l e R s m args below meth c Q X E cl A s.heap nL kc ks h (pc) lv (.long y :: .long x :: rest) := fun H locs ls hP hD hS hL => lv_lsub C.1.1 C.1.2.1 hd (k H locs ls hP hD hS hL)
theorem z_lmul (C : ZC p R s m args meth c cc nL T own E cl N G A X kc ks s.heap) {x y : Int64} (hd : decode cc pc = .ok (.lmul, 1)) (k : ZW p l e R s m args below meth c Q X E cl A s.heap nL kc ks h (pc + 1) lv (.long (x * y) :: rest)) : ZW p l e R s m args below meth c Q X E cl A s.heap nL kc ks h (pc) lv (.long y :: .long x :: rest) := fun H locs ls hP hD hS hL => lv_lmul C.1.1 C.1.2.1 hd (k H locs ls hP hD hS hL)
theorem z_land (C : ZC p R s m args meth c cc nL T own E cl N G A X kc ks s.heap) {x y : Int64} (hd : decode cc pc = .ok (.land, 1)) (k : ZW p l e R s m args below meth c Q X E cl A s.heap nL kc ks h (pc + 1) lv (.long (x &&& y) :: rest)) : ZW p l e R s m args below meth c Q X E cl A s.heap nL kc ks h (pc) lv (.long y :: .long x :: rest) := fun H locs ls hP hD hS hL => lv_land C.1.1 C.1.2.1 hd (k H locs ls hP hD hS hL)
theorem z_lor (C : ZC p R s m args meth c cc nL T own E cl N G A X kc ks s.heap) {x y : Int64} (hd : decode cc pc = .ok (.lor, 1)) (k : ZW p l e R s m args below meth c Q X E cl A s.heap nL kc ks h (pc + 1) lv (.long (x ||| y) :: rest)) : ZW p l e R s m args below meth c Q X E cl A s.heap nL kc ks h (pc) lv (.long y :: .long x :: rest) := fun H locs ls hP hD hS hL => lv_lor C.1.1 C.1.2.1 hd (k H locs ls hP hD hS hL)
theorem z_lxor (C : ZC p R s m args meth c cc nL T own E cl N G A X kc ks s.heap) {x y : Int64} (hd : decode cc pc = .ok (.lxor, 1)) (k : ZW p l e R s m args below meth c Q X E cl A s.heap nL kc ks h (pc + 1) lv (.long (x ^^^ y) :: rest)) : ZW p l e R s m args below meth c Q X E cl A s.heap nL kc ks h (pc) lv (.long y :: .long x :: rest) := fun H locs ls hP hD hS hL => lv_lxor C.1.1 C.1.2.1 hd (k H locs ls hP hD hS hL)
theorem z_idiv (C : ZC p R s m args meth c cc nL T own E cl N G A X kc ks s.heap) {x y : Int32} (hd : decode cc pc = .ok (.idiv, 1)) (hne : ¬ y = 0) (k : ZW p l e R s m args below meth c Q X E cl A s.heap nL kc ks h (pc + 1) lv (.int (x / y) :: rest)) : ZW p l e R s m args below meth c Q X E cl A s.heap nL kc ks h (pc) lv (.int y :: .int x :: rest) := fun H locs ls hP hD hS hL => lv_idiv C.1.1 C.1.2.1 hd hne (k H locs ls hP hD hS hL)
theorem z_irem (C : ZC p R s m args meth c cc nL T own E cl N G A X kc ks s.heap) {x y : Int32} (hd : decode cc pc = .ok (.irem, 1)) (hne : ¬ y = 0) (k : ZW p l e R s m args below meth c Q X E cl A s.heap nL kc ks h (pc + 1) lv (.int (x - x / y * y) :: rest)) : ZW p l e R s m args below meth c Q X E cl A s.heap nL kc ks h (pc) lv (.int y :: .int x :: rest) := fun H locs ls hP hD hS hL => lv_irem C.1.1 C.1.2.1 hd hne (k H locs ls hP hD hS hL)
theorem z_ldiv (C : ZC p R s m args meth c cc nL T own E cl N G A X kc ks s.heap) {x y : Int64} (hd : decode cc pc = .ok (.ldiv, 1)) (hne : ¬ y = 0) (k : ZW p l e R s m args below meth c Q X E cl A s.heap nL kc ks h (pc + 1) lv (.long (x / y) :: rest)) : ZW p l e R s m args below meth c Q X E cl A s.heap nL kc ks h (pc) lv (.long y :: .long x :: rest) := fun H locs ls hP hD hS hL => lv_ldiv C.1.1 C.1.2.1 hd hne (k H locs ls hP hD hS hL)
theorem z_lrem (C : ZC p R s m args meth c cc nL T own E cl N G A X kc ks s.heap) {x y : Int64} (hd : decode cc pc = .ok (.lrem, 1)) (hne : ¬ y = 0) (k : ZW p l e R s m args below meth c Q X E cl A s.heap nL kc ks h (pc + 1) lv (.long (x - x / y * y) :: rest)) : ZW p l e R s m args below meth c Q X E cl A s.heap nL kc ks h (pc) lv (.long y :: .long x :: rest) := fun H locs ls hP hD hS hL => lv_lrem C.1.1 C.1.2.1 hd hne (k H locs ls hP hD hS hL)
theorem z_ineg (C : ZC p R s m args meth c cc nL T own E cl N G A X kc ks s.heap) {x : Int32} (hd : decode cc pc = .ok (.ineg, 1)) (k : ZW p l e R s m args below meth c Q X E cl A s.heap nL kc ks h (pc + 1) lv (.int (-x) :: rest)) : ZW p l e R s m args below meth c Q X E cl A s.heap nL kc ks h (pc) lv (.int x :: rest) := fun H locs ls hP hD hS hL => lv_ineg C.1.1 C.1.2.1 hd (k H locs ls hP hD hS hL)
theorem z_lneg (C : ZC p R s m args meth c cc nL T own E cl N G A X kc ks s.heap) {x : Int64} (hd : decode cc pc = .ok (.lneg, 1)) (k : ZW p l e R s m args below meth c Q X E cl A s.heap nL kc ks h (pc + 1) lv (.long (-x) :: rest)) : ZW p l e R s m args below meth c Q X E cl A s.heap nL kc ks h (pc) lv (.long x :: rest) := fun H locs ls hP hD hS hL => lv_lneg C.1.1 C.1.2.1 hd (k H locs ls hP hD hS hL)
theorem z_i2l (C : ZC p R s m args meth c cc nL T own E cl N G A X kc ks s.heap) {x : Int32} (hd : decode cc pc = .ok (.i2l, 1)) (k : ZW p l e R s m args below meth c Q X E cl A s.heap nL kc ks h (pc + 1) lv (.long x.toInt64 :: rest)) : ZW p l e R s m args below meth c Q X E cl A s.heap nL kc ks h (pc) lv (.int x :: rest) := fun H locs ls hP hD hS hL => lv_i2l C.1.1 C.1.2.1 hd rfl (k H locs ls hP hD hS hL)
theorem z_l2i (C : ZC p R s m args meth c cc nL T own E cl N G A X kc ks s.heap) {x : Int64} (hd : decode cc pc = .ok (.l2i, 1)) (k : ZW p l e R s m args below meth c Q X E cl A s.heap nL kc ks h (pc + 1) lv (.int x.toInt32 :: rest)) : ZW p l e R s m args below meth c Q X E cl A s.heap nL kc ks h (pc) lv (.long x :: rest) := fun H locs ls hP hD hS hL => lv_l2i C.1.1 C.1.2.1 hd rfl (k H locs ls hP hD hS hL)
theorem z_i2c (C : ZC p R s m args meth c cc nL T own E cl N G A X kc ks s.heap) {x : Int32} (hd : decode cc pc = .ok (.i2c, 1)) (k : ZW p l e R s m args below meth c Q X E cl A s.heap nL kc ks h (pc + 1) lv (.int (x.toUInt32 % 65536).toInt32 :: rest)) : ZW p l e R s m args below meth c Q X E cl A s.heap nL kc ks h (pc) lv (.int x :: rest) := fun H locs ls hP hD hS hL => lv_i2c C.1.1 C.1.2.1 hd rfl (k H locs ls hP hD hS hL)
theorem z_iushr (C : ZC p R s m args meth c cc nL T own E cl N G A X kc ks s.heap) {x y : Int32} (hd : decode cc pc = .ok (.iushr, 1)) (k : ZW p l e R s m args below meth c Q X E cl A s.heap nL kc ks h (pc + 1) lv (.int (x.toUInt32 >>> (y.toUInt32 &&& Int32.toUInt32 31)).toInt32 :: rest)) : ZW p l e R s m args below meth c Q X E cl A s.heap nL kc ks h (pc) lv (.int y :: .int x :: rest) := fun H locs ls hP hD hS hL => lv_iushr C.1.1 C.1.2.1 hd rfl (k H locs ls hP hD hS hL)
theorem z_lcmp (C : ZC p R s m args meth c cc nL T own E cl N G A X kc ks s.heap) {x y : Int64} (hd : decode cc pc = .ok (.lcmp, 1)) (k : ZW p l e R s m args below meth c Q X E cl A s.heap nL kc ks h (pc + 1) lv (.int (lg_cmp x y) :: rest)) : ZW p l e R s m args below meth c Q X E cl A s.heap nL kc ks h (pc) lv (.long y :: .long x :: rest) := fun H locs ls hP hD hS hL => W.lcmp C.1.1 C.1.2.1 hd (k H locs ls hP hD hS hL)
theorem z_dup (C : ZC p R s m args meth c cc nL T own E cl N G A X kc ks s.heap) {va : Value} (hd : decode cc pc = .ok (.dup, 1)) (hva : va.category = 1) (k : ZW p l e R s m args below meth c Q X E cl A s.heap nL kc ks h (pc + 1) lv (va :: va :: rest)) : ZW p l e R s m args below meth c Q X E cl A s.heap nL kc ks h (pc) lv (va :: rest) := fun H locs ls hP hD hS hL => lv_dup C.1.1 C.1.2.1 hd hva (k H locs ls hP hD hS hL)
theorem z_pop (C : ZC p R s m args meth c cc nL T own E cl N G A X kc ks s.heap) {va : Value} (hd : decode cc pc = .ok (.pop, 1)) (hva : va.category = 1) (k : ZW p l e R s m args below meth c Q X E cl A s.heap nL kc ks h (pc + 1) lv (rest)) : ZW p l e R s m args below meth c Q X E cl A s.heap nL kc ks h (pc) lv (va :: rest) := fun H locs ls hP hD hS hL => lv_pop C.1.1 C.1.2.1 hd hva (k H locs ls hP hD hS hL)
theorem z_dup_x1 (C : ZC p R s m args meth c cc nL T own E cl N G A X kc ks s.heap) {va vb : Value} (hd : decode cc pc = .ok (.dup_x1, 1)) (hva : va.category = 1) (hvb : vb.category = 1) (k : ZW p l e R s m args below meth c Q X E cl A s.heap nL kc ks h (pc + 1) lv (va :: vb :: va :: rest)) : ZW p l e R s m args below meth c Q X E cl A s.heap nL kc ks h (pc) lv (va :: vb :: rest) := fun H locs ls hP hD hS hL => lv_dup_x1 C.1.1 C.1.2.1 hd hva hvb (k H locs ls hP hD hS hL)
theorem z_dup_x2 (C : ZC p R s m args meth c cc nL T own E cl N G A X kc ks s.heap) {va vb vd : Value} (hd : decode cc pc = .ok (.dup_x2, 1)) (hva : va.category = 1) (hvb : vb.category = 1) (hvd : vd.category = 1) (k : ZW p l e R s m args below meth c Q X E cl A s.heap nL kc ks h (pc + 1) lv (va :: vb :: vd :: va :: rest)) : ZW p l e R s m args below meth c Q X E cl A s.heap nL kc ks h (pc) lv (va :: vb :: vd :: rest) := fun H locs ls hP hD hS hL => lv_dup_x2 C.1.1 C.1.2.1 hd hva hvb hvd (k H locs ls hP hD hS hL)
theorem z_dup2 (C : ZC p R s m args meth c cc nL T own E cl N G A X kc ks s.heap) {va vb : Value} (hd : decode cc pc = .ok (.dup2, 1)) (hva : va.category = 1) (hvb : vb.category = 1) (k : ZW p l e R s m args below meth c Q X E cl A s.heap nL kc ks h (pc + 1) lv (va :: vb :: va :: vb :: rest)) : ZW p l e R s m args below meth c Q X E cl A s.heap nL kc ks h (pc) lv (va :: vb :: rest) := fun H locs ls hP hD hS hL => lv_dup2_11 C.1.1 C.1.2.1 hd hva hvb (k H locs ls hP hD hS hL)
theorem z_pop2 (C : ZC p R s m args meth c cc nL T own E cl N G A X kc ks s.heap) {va : Value} (hd : decode cc pc = .ok (.pop2, 1)) (hva : va.category = 2) (k : ZW p l e R s m args below meth c Q X E cl A s.heap nL kc ks h (pc + 1) lv (rest)) : ZW p l e R s m args below meth c Q X E cl A s.heap nL kc ks h (pc) lv (va :: rest) := fun H locs ls hP hD hS hL => lv_pop2_2 C.1.1 C.1.2.1 hd hva (k H locs ls hP hD hS hL)
theorem z_icmp_eq (C : ZC p R s m args meth c cc nL T own E cl N G A X kc ks s.heap) {x y : Int32} {off : Int} {tgt : Nat} (hd : decode cc pc = .ok (.if_icmp .eq off, 3)) (ht : (pc : Int) + off = (tgt : Int)) (kt : x = y → ZW p l e R s m args below meth c Q X E cl A s.heap nL kc ks h (tgt) lv (rest)) (kf : ¬ x = y → ZW p l e R s m args below meth c Q X E cl A s.heap nL kc ks h (pc + 3) lv (rest)) : ZW p l e R s m args below meth c Q X E cl A s.heap nL kc ks h (pc) lv (.int y :: .int x :: rest) := fun H locs ls hP hD hS hL => lv_icmp_eq C.1.1 C.1.2.1 hd ht (fun q => kt q H locs ls hP hD hS hL) (fun q => kf q H locs ls hP hD hS hL)
theorem z_if_eq (C : ZC p R s m args meth c cc nL T own E cl N G A X kc ks s.heap) {x : Int32} {off : Int} {tgt : Nat} (hd : decode cc pc = .ok (.ifCond .eq off, 3)) (ht : (pc : Int) + off = (tgt : Int)) (kt : x = 0 → ZW p l e R s m args below meth c Q X E cl A s.heap nL kc ks h (tgt) lv (rest)) (kf : ¬ x = 0 → ZW p l e R s m args below meth c Q X E cl A s.heap nL kc ks h (pc + 3) lv (rest)) : ZW p l e R s m args below meth c Q X E cl A s.heap nL kc ks h (pc) lv (.int x :: rest) := fun H locs ls hP hD hS hL => lv_if_eq C.1.1 C.1.2.1 hd ht (fun q => kt q H locs ls hP hD hS hL) (fun q => kf q H locs ls hP hD hS hL)
theorem z_icmp_ne (C : ZC p R s m args meth c cc nL T own E cl N G A X kc ks s.heap) {x y : Int32} {off : Int} {tgt : Nat} (hd : decode cc pc = .ok (.if_icmp .ne off, 3)) (ht : (pc : Int) + off = (tgt : Int)) (kt : ¬ x = y → ZW p l e R s m args below meth c Q X E cl A s.heap nL kc ks h (tgt) lv (rest)) (kf : x = y → ZW p l e R s m args below meth c Q X E cl A s.heap nL kc ks h (pc + 3) lv (rest)) : ZW p l e R s m args below meth c Q X E cl A s.heap nL kc ks h (pc) lv (.int y :: .int x :: rest) := fun H locs ls hP hD hS hL => lv_icmp_ne C.1.1 C.1.2.1 hd ht (fun q => kt q H locs ls hP hD hS hL) (fun q => kf q H locs ls hP hD hS hL)
theorem z_if_ne (C : ZC p R s m args meth c cc nL T own E cl N G A X kc ks s.heap) {x : Int32} {off : Int} {tgt : Nat} (hd : decode cc pc = .ok (.ifCond .ne off, 3)) (ht : (pc : Int) + off = (tgt : Int)) (kt : ¬ x = 0 → ZW p l e R s m args below meth c Q X E cl A s.heap nL kc ks h (tgt) lv (rest)) (kf : x = 0 → ZW p l e R s m args below meth c Q X E cl A s.heap nL kc ks h (pc + 3) lv (rest)) : ZW p l e R s m args below meth c Q X E cl A s.heap nL kc ks h (pc) lv (.int x :: rest) := fun H locs ls hP hD hS hL => lv_if_ne C.1.1 C.1.2.1 hd ht (fun q => kt q H locs ls hP hD hS hL) (fun q => kf q H locs ls hP hD hS hL)
theorem z_icmp_lt (C : ZC p R s m args meth c cc nL T own E cl N G A X kc ks s.heap) {x y : Int32} {off : Int} {tgt : Nat} (hd : decode cc pc = .ok (.if_icmp .lt off, 3)) (ht : (pc : Int) + off = (tgt : Int)) (kt : x < y → ZW p l e R s m args below meth c Q X E cl A s.heap nL kc ks h (tgt) lv (rest)) (kf : ¬ x < y → ZW p l e R s m args below meth c Q X E cl A s.heap nL kc ks h (pc + 3) lv (rest)) : ZW p l e R s m args below meth c Q X E cl A s.heap nL kc ks h (pc) lv (.int y :: .int x :: rest) := fun H locs ls hP hD hS hL => lv_icmp_lt C.1.1 C.1.2.1 hd ht (fun q => kt q H locs ls hP hD hS hL) (fun q => kf q H locs ls hP hD hS hL)
theorem z_if_lt (C : ZC p R s m args meth c cc nL T own E cl N G A X kc ks s.heap) {x : Int32} {off : Int} {tgt : Nat} (hd : decode cc pc = .ok (.ifCond .lt off, 3)) (ht : (pc : Int) + off = (tgt : Int)) (kt : x < 0 → ZW p l e R s m args below meth c Q X E cl A s.heap nL kc ks h (tgt) lv (rest)) (kf : ¬ x < 0 → ZW p l e R s m args below meth c Q X E cl A s.heap nL kc ks h (pc + 3) lv (rest)) : ZW p l e R s m args below meth c Q X E cl A s.heap nL kc ks h (pc) lv (.int x :: rest) := fun H locs ls hP hD hS hL => lv_if_lt C.1.1 C.1.2.1 hd ht (fun q => kt q H locs ls hP hD hS hL) (fun q => kf q H locs ls hP hD hS hL)
theorem z_icmp_ge (C : ZC p R s m args meth c cc nL T own E cl N G A X kc ks s.heap) {x y : Int32} {off : Int} {tgt : Nat} (hd : decode cc pc = .ok (.if_icmp .ge off, 3)) (ht : (pc : Int) + off = (tgt : Int)) (kt : y ≤ x → ZW p l e R s m args below meth c Q X E cl A s.heap nL kc ks h (tgt) lv (rest)) (kf : ¬ y ≤ x → ZW p l e R s m args below meth c Q X E cl A s.heap nL kc ks h (pc + 3) lv (rest)) : ZW p l e R s m args below meth c Q X E cl A s.heap nL kc ks h (pc) lv (.int y :: .int x :: rest) := fun H locs ls hP hD hS hL => lv_icmp_ge C.1.1 C.1.2.1 hd ht (fun q => kt q H locs ls hP hD hS hL) (fun q => kf q H locs ls hP hD hS hL)
theorem z_if_ge (C : ZC p R s m args meth c cc nL T own E cl N G A X kc ks s.heap) {x : Int32} {off : Int} {tgt : Nat} (hd : decode cc pc = .ok (.ifCond .ge off, 3)) (ht : (pc : Int) + off = (tgt : Int)) (kt : 0 ≤ x → ZW p l e R s m args below meth c Q X E cl A s.heap nL kc ks h (tgt) lv (rest)) (kf : ¬ 0 ≤ x → ZW p l e R s m args below meth c Q X E cl A s.heap nL kc ks h (pc + 3) lv (rest)) : ZW p l e R s m args below meth c Q X E cl A s.heap nL kc ks h (pc) lv (.int x :: rest) := fun H locs ls hP hD hS hL => lv_if_ge C.1.1 C.1.2.1 hd ht (fun q => kt q H locs ls hP hD hS hL) (fun q => kf q H locs ls hP hD hS hL)
theorem z_icmp_gt (C : ZC p R s m args meth c cc nL T own E cl N G A X kc ks s.heap) {x y : Int32} {off : Int} {tgt : Nat} (hd : decode cc pc = .ok (.if_icmp .gt off, 3)) (ht : (pc : Int) + off = (tgt : Int)) (kt : y < x → ZW p l e R s m args below meth c Q X E cl A s.heap nL kc ks h (tgt) lv (rest)) (kf : ¬ y < x → ZW p l e R s m args below meth c Q X E cl A s.heap nL kc ks h (pc + 3) lv (rest)) : ZW p l e R s m args below meth c Q X E cl A s.heap nL kc ks h (pc) lv (.int y :: .int x :: rest) := fun H locs ls hP hD hS hL => lv_icmp_gt C.1.1 C.1.2.1 hd ht (fun q => kt q H locs ls hP hD hS hL) (fun q => kf q H locs ls hP hD hS hL)
theorem z_if_gt (C : ZC p R s m args meth c cc nL T own E cl N G A X kc ks s.heap) {x : Int32} {off : Int} {tgt : Nat} (hd : decode cc pc = .ok (.ifCond .gt off, 3)) (ht : (pc : Int) + off = (tgt : Int)) (kt : 0 < x → ZW p l e R s m args below meth c Q X E cl A s.heap nL kc ks h (tgt) lv (rest)) (kf : ¬ 0 < x → ZW p l e R s m args below meth c Q X E cl A s.heap nL kc ks h (pc + 3) lv (rest)) : ZW p l e R s m args below meth c Q X E cl A s.heap nL kc ks h (pc) lv (.int x :: rest) := fun H locs ls hP hD hS hL => lv_if_gt C.1.1 C.1.2.1 hd ht (fun q => kt q H locs ls hP hD hS hL) (fun q => kf q H locs ls hP hD hS hL)
theorem z_icmp_le (C : ZC p R s m args meth c cc nL T own E cl N G A X kc ks s.heap) {x y : Int32} {off : Int} {tgt : Nat} (hd : decode cc pc = .ok (.if_icmp .le off, 3)) (ht : (pc : Int) + off = (tgt : Int)) (kt : x ≤ y → ZW p l e R s m args below meth c Q X E cl A s.heap nL kc ks h (tgt) lv (rest)) (kf : ¬ x ≤ y → ZW p l e R s m args below meth c Q X E cl A s.heap nL kc ks h (pc + 3) lv (rest)) : ZW p l e R s m args below meth c Q X E cl A s.heap nL kc ks h (pc) lv (.int y :: .int x :: rest) := fun H locs ls hP hD hS hL => lv_icmp_le C.1.1 C.1.2.1 hd ht (fun q => kt q H locs ls hP hD hS hL) (fun q => kf q H locs ls hP hD hS hL)
theorem z_if_le (C : ZC p R s m args meth c cc nL T own E cl N G A X kc ks s.heap) {x : Int32} {off : Int} {tgt : Nat} (hd : decode cc pc = .ok (.ifCond .le off, 3)) (ht : (pc : Int) + off = (tgt : Int)) (kt : x ≤ 0 → ZW p l e R s m args below meth c Q X E cl A s.heap nL kc ks h (tgt) lv (rest)) (kf : ¬ x ≤ 0 → ZW p l e R s m args below meth c Q X E cl A s.heap nL kc ks h (pc + 3) lv (rest)) : ZW p l e R s m args below meth c Q X E cl A s.heap nL kc ks h (pc) lv (.int x :: rest) := fun H locs ls hP hD hS hL => lv_if_le C.1.1 C.1.2.1 hd ht (fun q => kt q H locs ls hP hD hS hL) (fun q => kf q H locs ls hP hD hS hL)
theorem z_goto (C : ZC p R s m args meth c cc nL T own E cl N G A X kc ks s.heap) {off : Int} {tgt : Nat} (hd : decode cc pc = .ok (.goto off, 3)) (ht : (pc : Int) + off = (tgt : Int)) (k : ZW p l e R s m args below meth c Q X E cl A s.heap nL kc ks h (tgt) lv (rest)) : ZW p l e R s m args below meth c Q X E cl A s.heap nL kc ks h (pc) lv (rest) := fun H locs ls hP hD hS hL => lv_goto C.1.1 C.1.2.1 hd ht (k H locs ls hP hD hS hL)
theorem z_lookup (C : ZC p R s m args meth c cc nL T own E cl N G A X kc ks s.heap) {dflt : Int} {ps : Array (Int × Int)} {len : Nat} {x : Int32} {off : Int} {tgt : Nat} (hd : decode cc pc = .ok (.lookupswitch dflt ps, len)) (hp : (ps.toList.zip (ps.toList.drop 1)).all (fun (a, next) => a.1 < next.1) = true) (ho : Op.lookupswitch.offset ps.toList dflt x.toInt = off) (ht : (pc : Int) + off = (tgt : Int)) (k : ZW p l e R s m args below meth c Q X E cl A s.heap nL kc ks h (tgt) lv (rest)) : ZW p l e R s m args below meth c Q X E cl A s.heap nL kc ks h (pc) lv (.int x :: rest) := fun H locs ls hP hD hS hL => lv_lookup C.1.1 C.1.2.1 hd hp ho ht (k H locs ls hP hD hS hL)
theorem z_tabOut (C : ZC p R s m args meth c cc nL T own E cl N G A X kc ks s.heap) {dflt lo hi : Int} {offs : Array Int} {len : Nat} {x : Int32} {tgt : Nat} (hd : decode cc pc = .ok (.tableswitch dflt lo hi offs, len)) (hx : x.toInt < lo ∨ hi < x.toInt) (ht : (pc : Int) + dflt = (tgt : Int)) (k : ZW p l e R s m args below meth c Q X E cl A s.heap nL kc ks h (tgt) lv (rest)) : ZW p l e R s m args below meth c Q X E cl A s.heap nL kc ks h (pc) lv (.int x :: rest) := fun H locs ls hP hD hS hL => lv_tableOut C.1.1 C.1.2.1 hd hx ht (k H locs ls hP hD hS hL)
theorem z_tabIn (C : ZC p R s m args meth c cc nL T own E cl N G A X kc ks s.heap) {dflt lo hi : Int} {offs : Array Int} {len : Nat} {x : Int32} {off : Int} {tgt : Nat} (hd : decode cc pc = .ok (.tableswitch dflt lo hi offs, len)) (h1 : ¬ x.toInt < lo) (h2 : ¬ hi < x.toInt) (ho : offs[(x.toInt - lo).toNat]? = some off) (ht : (pc : Int) + off = (tgt : Int)) (k : ZW p l e R s m args below meth c Q X E cl A s.heap nL kc ks h (tgt) lv (rest)) : ZW p l e R s m args below meth c Q X E cl A s.heap nL kc ks h (pc) lv (.int x :: rest) := fun H locs ls hP hD hS hL => lv_tableIn C.1.1 C.1.2.1 hd h1 h2 ho ht (k H locs ls hP hD hS hL)
theorem z_tcase (C : ZC p R s m args meth c cc nL T own E cl N G A X kc ks s.heap) {dflt lo hi off : Int} {offs : Array Int} {len tgt : Nat} {x : Int32} (v : Int32) (hd : decode cc pc = .ok (.tableswitch dflt lo hi offs, len)) (h1 : ¬ v.toInt < lo) (h2 : ¬ hi < v.toInt) (ho : offs[(v.toInt - lo).toNat]? = some off) (ht : (pc : Int) + off = (tgt : Int)) (kt : x = v → ZW p l e R s m args below meth c Q X E cl A s.heap nL kc ks h (tgt) lv (rest)) (kf : ¬ x = v → ZW p l e R s m args below meth c Q X E cl A s.heap nL kc ks h (pc) lv (.int x :: rest)) : ZW p l e R s m args below meth c Q X E cl A s.heap nL kc ks h (pc) lv (.int x :: rest) := by
  by_cases q : x = v
  · subst q
    exact z_tabIn C hd h1 h2 ho ht (kt rfl)
  · exact kf q
theorem z_lcase (C : ZC p R s m args meth c cc nL T own E cl N G A X kc ks s.heap) {dflt off : Int} {ps : Array (Int × Int)} {len tgt : Nat} {x : Int32} (v : Int32) (hd : decode cc pc = .ok (.lookupswitch dflt ps, len)) (hp : (ps.toList.zip (ps.toList.drop 1)).all (fun (a, next) => a.1 < next.1) = true) (ho : Op.lookupswitch.offset ps.toList dflt v.toInt = off) (ht : (pc : Int) + off = (tgt : Int)) (kt : x = v → ZW p l e R s m args below meth c Q X E cl A s.heap nL kc ks h (tgt) lv (rest)) (kf : ¬ x = v → ZW p l e R s m args below meth c Q X E cl A s.heap nL kc ks h (pc) lv (.int x :: rest)) : ZW p l e R s m args below meth c Q X E cl A s.heap nL kc ks h (pc) lv (.int x :: rest) := by
  by_cases q : x = v
  · subst q
    exact z_lookup C hd hp ho ht (kt rfl)
  · exact kf q
theorem z_lv {lv2 : List (Option Value)} (hl : lv = lv2) {st : List Value} (k : ZW p l e R s m args below meth c Q X E cl A s.heap nL kc ks h (pc) lv2 (st)) : ZW p l e R s m args below meth c Q X E cl A s.heap nL kc ks h (pc) lv (st) := by
  subst hl
  exact k
theorem z_sub {lv2 : List (Option Value)} (hl : ∀ (i : Nat) (v : Value), lv2[i]? = some (some v) → lv[i]? = some (some v)) {st : List Value} (k : ZW p l e R s m args below meth c Q X E cl A s.heap nL kc ks h (pc) lv2 (st)) : ZW p l e R s m args below meth c Q X E cl A s.heap nL kc ks h (pc) lv (st) := fun H locs ls hP hD hS hL => k H locs ls hP hD hS ⟨hL.1, hL.2.1, fun i v hv => hL.2.2 i v (hl i v hv)⟩
theorem z_h {h2 : zH} (hh : h = h2) {st : List Value} (k : ZW p l e R s m args below meth c Q X E cl A s.heap nL kc ks h2 (pc) lv (st)) : ZW p l e R s m args below meth c Q X E cl A s.heap nL kc ks h (pc) lv (st) := by
  subst hh
  exact k
theorem z_st {st st2 : List Value} (hh : st = st2) (k : ZW p l e R s m args below meth c Q X E cl A s.heap nL kc ks h (pc) lv (st2)) : ZW p l e R s m args below meth c Q X E cl A s.heap nL kc ks h (pc) lv (st) := by
  subst hh
  exact k
theorem z_get (C : ZC p R s m args meth c cc nL T own E cl N G A X kc ks s.heap) {k ci i j n : Nat} {K : String} {F : u_T} {q : Nat × Nat} {v : Value} (hk : k < X.1) (hX : X.2.1 k = (0, ci)) (hc : cl[ci]? = some (K, F, n)) (hin : ∀ w ∈ u_ws K F n, w ∈ T) (hj : j < n) (hw : Cond.fieldLink own i (F j).1 (F j).2.1 (F j).2.2.1 ∈ T) (hq : (X.2.2 ci)[j]? = some q) (hv : zv E h k j q = v) (hd : decode cc pc = .ok (.getfield i, 3)) (kk : ZW p l e R s m args below meth c Q X E cl A s.heap nL kc ks h (pc + 3) lv (v :: rest)) : ZW p l e R s m args below meth c Q X E cl A s.heap nL kc ks h (pc) lv (.ref (E.2.2.1 k) :: rest) := by
  intro H locs ls hP hD hS hL
  subst hv
  exact va_get (D := E.1) C.1.1 C.1.2.1 C.1.2.2.2.2 hin C.1.2.2.2.1 C.2.1 hP k (by rw [zw_at hk, ze_obj hX]) hc j hj (C.1.2.2.2.2 _ hw) (fun _ h9 => h9) (zf_at hq) hd (kk H locs ls hP hD hS hL)
theorem z_getI (C : ZC p R s m args meth c cc nL T own E cl N G A X kc ks s.heap) {k ci i j n a : Nat} {K : String} {F : u_T} (hk : k < X.1) (hX : X.2.1 k = (0, ci)) (hc : cl[ci]? = some (K, F, n)) (hin : ∀ w ∈ u_ws K F n, w ∈ T) (hj : j < n) (hw : Cond.fieldLink own i (F j).1 (F j).2.1 (F j).2.2.1 ∈ T) (hq : (X.2.2 ci)[j]? = some (0, a)) (hd : decode cc pc = .ok (.getfield i, 3)) (kk : ZW p l e R s m args below meth c Q X E cl A s.heap nL kc ks h (pc + 3) lv (.int (h.1 k j) :: rest)) : ZW p l e R s m args below meth c Q X E cl A s.heap nL kc ks h (pc) lv (.ref (E.2.2.1 k) :: rest) :=
  z_get C hk hX hc hin hj hw hq rfl hd kk
theorem z_getL (C : ZC p R s m args meth c cc nL T own E cl N G A X kc ks s.heap) {k ci i j n a : Nat} {K : String} {F : u_T} (hk : k < X.1) (hX : X.2.1 k = (0, ci)) (hc : cl[ci]? = some (K, F, n)) (hin : ∀ w ∈ u_ws K F n, w ∈ T) (hj : j < n) (hw : Cond.fieldLink own i (F j).1 (F j).2.1 (F j).2.2.1 ∈ T) (hq : (X.2.2 ci)[j]? = some (1, a)) (hd : decode cc pc = .ok (.getfield i, 3)) (kk : ZW p l e R s m args below meth c Q X E cl A s.heap nL kc ks h (pc + 3) lv (.long (h.2.1 k j) :: rest)) : ZW p l e R s m args below meth c Q X E cl A s.heap nL kc ks h (pc) lv (.ref (E.2.2.1 k) :: rest) :=
  z_get C hk hX hc hin hj hw hq rfl hd kk
theorem z_getK (C : ZC p R s m args meth c cc nL T own E cl N G A X kc ks s.heap) {k ci i j n a : Nat} {K : String} {F : u_T} (hk : k < X.1) (hX : X.2.1 k = (0, ci)) (hc : cl[ci]? = some (K, F, n)) (hin : ∀ w ∈ u_ws K F n, w ∈ T) (hj : j < n) (hw : Cond.fieldLink own i (F j).1 (F j).2.1 (F j).2.2.1 ∈ T) (hq : (X.2.2 ci)[j]? = some (2, a)) (hd : decode cc pc = .ok (.getfield i, 3)) (kk : ZW p l e R s m args below meth c Q X E cl A s.heap nL kc ks h (pc + 3) lv (.ref (E.2.2.1 (k + a)) :: rest)) : ZW p l e R s m args below meth c Q X E cl A s.heap nL kc ks h (pc) lv (.ref (E.2.2.1 k) :: rest) :=
  z_get C hk hX hc hin hj hw hq rfl hd kk
theorem z_getS (C : ZC p R s m args meth c cc nL T own E cl N G A X kc ks s.heap) {k ci i j n a : Nat} {K : String} {F : u_T} (hk : k < X.1) (hX : X.2.1 k = (0, ci)) (hc : cl[ci]? = some (K, F, n)) (hin : ∀ w ∈ u_ws K F n, w ∈ T) (hj : j < n) (hw : Cond.fieldLink own i (F j).1 (F j).2.1 (F j).2.2.1 ∈ T) (hq : (X.2.2 ci)[j]? = some (3, a)) (hd : decode cc pc = .ok (.getfield i, 3)) (kk : ZW p l e R s m args below meth c Q X E cl A s.heap nL kc ks h (pc + 3) lv (.ref (E.2.2.1 a) :: rest)) : ZW p l e R s m args below meth c Q X E cl A s.heap nL kc ks h (pc) lv (.ref (E.2.2.1 k) :: rest) :=
  z_get C hk hX hc hin hj hw hq rfl hd kk
theorem z_getR (C : ZC p R s m args meth c cc nL T own E cl N G A X kc ks s.heap) {k ci i j n a : Nat} {K : String} {F : u_T} (hk : k < X.1) (hX : X.2.1 k = (0, ci)) (hc : cl[ci]? = some (K, F, n)) (hin : ∀ w ∈ u_ws K F n, w ∈ T) (hj : j < n) (hw : Cond.fieldLink own i (F j).1 (F j).2.1 (F j).2.2.1 ∈ T) (hq : (X.2.2 ci)[j]? = some (4, a)) (hd : decode cc pc = .ok (.getfield i, 3)) (kk : ZW p l e R s m args below meth c Q X E cl A s.heap nL kc ks h (pc + 3) lv (.ref (E.2.2.1 (h.2.2 k j)) :: rest)) : ZW p l e R s m args below meth c Q X E cl A s.heap nL kc ks h (pc) lv (.ref (E.2.2.1 k) :: rest) :=
  z_get C hk hX hc hin hj hw hq rfl hd kk
theorem z_putI (C : ZC p R s m args meth c cc nL T own E cl N G A X kc ks s.heap) {k ci i j n a : Nat} {K : String} {F : u_T} {x : Int32} (tf : Nat → FieldType) (hk : k < X.1) (hX : X.2.1 k = (0, ci)) (hc : cl[ci]? = some (K, F, n)) (hin : ∀ w ∈ u_ws K F n, w ∈ T) (hty : ∀ k, k < n → parseFieldDescriptor (F k).2.2.1 = some (tf k)) (hnm : ∀ a, a < n → ∀ b, b < n → a ≠ b → (F a).2.1 ≠ (F b).2.1) (hj : j < n) (hw : Cond.fieldLink own i (F j).1 (F j).2.1 (F j).2.2.1 ∈ T) (hfin : (F j).2.2.2 = false) (hdesc : parseFieldDescriptor (F j).2.2.1 = some .int) (hq : (X.2.2 ci)[j]? = some (0, a)) (hd : decode cc pc = .ok (.putfield i, 3)) (kk : ∀ h2 : zH, h2 = zi h k j x → ZW p l e R s m args below meth c Q X E cl A s.heap nL kc ks h2 (pc + 3) lv (rest)) : ZW p l e R s m args below meth c Q X E cl A s.heap nL kc ks h (pc) lv (.int x :: .ref (E.2.2.1 k) :: rest) := by
  intro H locs ls hP hD hS hL
  have hl : j < (zf E h k (X.2.2 ci)).length := by rw [zf_len]; exact (List.getElem?_eq_some_iff.mp hq).1
  refine va_put (D := E.1) C.1.1 C.1.2.1 C.1.2.2.2.2 hin tf hty hnm C.1.2.2.2.1 C.2.1 hP hD hS k (by rw [zw_at hk, ze_obj hX]) hc j hj (C.1.2.2.2.2 _ hw) (fun _ h9 => h9) hfin hdesc rfl rfl hl hd (fun H1 locs1 hP1 hD1 hS1 => ?_)
  rw [zw_fi hk hX hq] at hP1 hD1
  exact kk _ rfl H1 locs1 ls hP1 hD1 hS1 hL
theorem z_putL (C : ZC p R s m args meth c cc nL T own E cl N G A X kc ks s.heap) {k ci i j n a : Nat} {K : String} {F : u_T} {x : Int64} (tf : Nat → FieldType) (hk : k < X.1) (hX : X.2.1 k = (0, ci)) (hc : cl[ci]? = some (K, F, n)) (hin : ∀ w ∈ u_ws K F n, w ∈ T) (hty : ∀ k, k < n → parseFieldDescriptor (F k).2.2.1 = some (tf k)) (hnm : ∀ a, a < n → ∀ b, b < n → a ≠ b → (F a).2.1 ≠ (F b).2.1) (hj : j < n) (hw : Cond.fieldLink own i (F j).1 (F j).2.1 (F j).2.2.1 ∈ T) (hfin : (F j).2.2.2 = false) (hdesc : parseFieldDescriptor (F j).2.2.1 = some .long) (hq : (X.2.2 ci)[j]? = some (1, a)) (hd : decode cc pc = .ok (.putfield i, 3)) (kk : ∀ h2 : zH, h2 = zl h k j x → ZW p l e R s m args below meth c Q X E cl A s.heap nL kc ks h2 (pc + 3) lv (rest)) : ZW p l e R s m args below meth c Q X E cl A s.heap nL kc ks h (pc) lv (.long x :: .ref (E.2.2.1 k) :: rest) := by
  intro H locs ls hP hD hS hL
  have hl : j < (zf E h k (X.2.2 ci)).length := by rw [zf_len]; exact (List.getElem?_eq_some_iff.mp hq).1
  refine va_put (D := E.1) C.1.1 C.1.2.1 C.1.2.2.2.2 hin tf hty hnm C.1.2.2.2.1 C.2.1 hP hD hS k (by rw [zw_at hk, ze_obj hX]) hc j hj (C.1.2.2.2.2 _ hw) (fun _ h9 => h9) hfin hdesc rfl rfl hl hd (fun H1 locs1 hP1 hD1 hS1 => ?_)
  rw [zw_fl hk hX hq] at hP1 hD1
  exact kk _ rfl H1 locs1 ls hP1 hD1 hS1 hL
theorem z_putR (C : ZC p R s m args meth c cc nL T own E cl N G A X kc ks s.heap) {k ci i j n a : Nat} {K : String} {F : u_T} {x : Nat} (tf : Nat → FieldType) (hk : k < X.1) (hX : X.2.1 k = (0, ci)) (hc : cl[ci]? = some (K, F, n)) (hin : ∀ w ∈ u_ws K F n, w ∈ T) (hty : ∀ k, k < n → parseFieldDescriptor (F k).2.2.1 = some (tf k)) (hnm : ∀ a, a < n → ∀ b, b < n → a ≠ b → (F a).2.1 ≠ (F b).2.1) (hj : j < n) (hw : Cond.fieldLink own i (F j).1 (F j).2.1 (F j).2.2.1 ∈ T) (hfin : (F j).2.2.2 = false) {ty : FieldType} (hdesc : parseFieldDescriptor (F j).2.2.1 = some ty) (hnar : ∀ a : Nat, narrow ty (.ref a) = .ref a) (hfit : ∀ a : Nat, fits ty (.ref a) = true) (hq : (X.2.2 ci)[j]? = some (4, a)) (hd : decode cc pc = .ok (.putfield i, 3)) (kk : ∀ h2 : zH, h2 = zr h k j x → ZW p l e R s m args below meth c Q X E cl A s.heap nL kc ks h2 (pc + 3) lv (rest)) : ZW p l e R s m args below meth c Q X E cl A s.heap nL kc ks h (pc) lv (.ref (E.2.2.1 x) :: .ref (E.2.2.1 k) :: rest) := by
  intro H locs ls hP hD hS hL
  have hl : j < (zf E h k (X.2.2 ci)).length := by rw [zf_len]; exact (List.getElem?_eq_some_iff.mp hq).1
  refine va_put (D := E.1) C.1.1 C.1.2.1 C.1.2.2.2.2 hin tf hty hnm C.1.2.2.2.1 C.2.1 hP hD hS k (by rw [zw_at hk, ze_obj hX]) hc j hj (C.1.2.2.2.2 _ hw) (fun _ h9 => h9) hfin hdesc (hnar _) (hfit _) hl hd (fun H1 locs1 hP1 hD1 hS1 => ?_)
  rw [zw_fr hk hX hq] at hP1 hD1
  exact kk _ rfl H1 locs1 ls hP1 hD1 hS1 hL
theorem z_getN (C : ZC p R s m args meth c cc nL T own E cl N G A X kc ks s.heap) {k ci i j n : Nat} {host : String} {K : String} {F : u_T} {q : Nat × Nat} {v : Value} (hk : k < X.1) (hX : X.2.1 k = (0, ci)) (hc : cl[ci]? = some (K, F, n)) (hin : ∀ w ∈ u_ws K F n, w ∈ T) (hj : j < n) (hw : Cond.fieldLinkNest own i (F j).1 (F j).2.1 (F j).2.2.1 host ∈ N) (hq : (X.2.2 ci)[j]? = some q) (hv : zv E h k j q = v) (hd : decode cc pc = .ok (.getfield i, 3)) (kk : ZW p l e R s m args below meth c Q X E cl A s.heap nL kc ks h (pc + 3) lv (v :: rest)) : ZW p l e R s m args below meth c Q X E cl A s.heap nL kc ks h (pc) lv (.ref (E.2.2.1 k) :: rest) := by
  intro H locs ls hP hD hS hL
  subst hv
  exact va_getN (D := E.1) C.1.1 C.1.2.1 C.1.2.2.2.2 hin C.1.2.2.2.1 C.2.1 hP k (by rw [zw_at hk, ze_obj hX]) hc j hj (va_Nw.use rfl (C.2.2.1 _ hw)) (fun _ h9 => h9) (zf_at hq) hd (kk H locs ls hP hD hS hL)
theorem z_getIN (C : ZC p R s m args meth c cc nL T own E cl N G A X kc ks s.heap) {k ci i j n a : Nat} {host : String} {K : String} {F : u_T} (hk : k < X.1) (hX : X.2.1 k = (0, ci)) (hc : cl[ci]? = some (K, F, n)) (hin : ∀ w ∈ u_ws K F n, w ∈ T) (hj : j < n) (hw : Cond.fieldLinkNest own i (F j).1 (F j).2.1 (F j).2.2.1 host ∈ N) (hq : (X.2.2 ci)[j]? = some (0, a)) (hd : decode cc pc = .ok (.getfield i, 3)) (kk : ZW p l e R s m args below meth c Q X E cl A s.heap nL kc ks h (pc + 3) lv (.int (h.1 k j) :: rest)) : ZW p l e R s m args below meth c Q X E cl A s.heap nL kc ks h (pc) lv (.ref (E.2.2.1 k) :: rest) :=
  z_getN C hk hX hc hin hj hw hq rfl hd kk
theorem z_getLN (C : ZC p R s m args meth c cc nL T own E cl N G A X kc ks s.heap) {k ci i j n a : Nat} {host : String} {K : String} {F : u_T} (hk : k < X.1) (hX : X.2.1 k = (0, ci)) (hc : cl[ci]? = some (K, F, n)) (hin : ∀ w ∈ u_ws K F n, w ∈ T) (hj : j < n) (hw : Cond.fieldLinkNest own i (F j).1 (F j).2.1 (F j).2.2.1 host ∈ N) (hq : (X.2.2 ci)[j]? = some (1, a)) (hd : decode cc pc = .ok (.getfield i, 3)) (kk : ZW p l e R s m args below meth c Q X E cl A s.heap nL kc ks h (pc + 3) lv (.long (h.2.1 k j) :: rest)) : ZW p l e R s m args below meth c Q X E cl A s.heap nL kc ks h (pc) lv (.ref (E.2.2.1 k) :: rest) :=
  z_getN C hk hX hc hin hj hw hq rfl hd kk
theorem z_getKN (C : ZC p R s m args meth c cc nL T own E cl N G A X kc ks s.heap) {k ci i j n a : Nat} {host : String} {K : String} {F : u_T} (hk : k < X.1) (hX : X.2.1 k = (0, ci)) (hc : cl[ci]? = some (K, F, n)) (hin : ∀ w ∈ u_ws K F n, w ∈ T) (hj : j < n) (hw : Cond.fieldLinkNest own i (F j).1 (F j).2.1 (F j).2.2.1 host ∈ N) (hq : (X.2.2 ci)[j]? = some (2, a)) (hd : decode cc pc = .ok (.getfield i, 3)) (kk : ZW p l e R s m args below meth c Q X E cl A s.heap nL kc ks h (pc + 3) lv (.ref (E.2.2.1 (k + a)) :: rest)) : ZW p l e R s m args below meth c Q X E cl A s.heap nL kc ks h (pc) lv (.ref (E.2.2.1 k) :: rest) :=
  z_getN C hk hX hc hin hj hw hq rfl hd kk
theorem z_getSN (C : ZC p R s m args meth c cc nL T own E cl N G A X kc ks s.heap) {k ci i j n a : Nat} {host : String} {K : String} {F : u_T} (hk : k < X.1) (hX : X.2.1 k = (0, ci)) (hc : cl[ci]? = some (K, F, n)) (hin : ∀ w ∈ u_ws K F n, w ∈ T) (hj : j < n) (hw : Cond.fieldLinkNest own i (F j).1 (F j).2.1 (F j).2.2.1 host ∈ N) (hq : (X.2.2 ci)[j]? = some (3, a)) (hd : decode cc pc = .ok (.getfield i, 3)) (kk : ZW p l e R s m args below meth c Q X E cl A s.heap nL kc ks h (pc + 3) lv (.ref (E.2.2.1 a) :: rest)) : ZW p l e R s m args below meth c Q X E cl A s.heap nL kc ks h (pc) lv (.ref (E.2.2.1 k) :: rest) :=
  z_getN C hk hX hc hin hj hw hq rfl hd kk
theorem z_getRN (C : ZC p R s m args meth c cc nL T own E cl N G A X kc ks s.heap) {k ci i j n a : Nat} {host : String} {K : String} {F : u_T} (hk : k < X.1) (hX : X.2.1 k = (0, ci)) (hc : cl[ci]? = some (K, F, n)) (hin : ∀ w ∈ u_ws K F n, w ∈ T) (hj : j < n) (hw : Cond.fieldLinkNest own i (F j).1 (F j).2.1 (F j).2.2.1 host ∈ N) (hq : (X.2.2 ci)[j]? = some (4, a)) (hd : decode cc pc = .ok (.getfield i, 3)) (kk : ZW p l e R s m args below meth c Q X E cl A s.heap nL kc ks h (pc + 3) lv (.ref (E.2.2.1 (h.2.2 k j)) :: rest)) : ZW p l e R s m args below meth c Q X E cl A s.heap nL kc ks h (pc) lv (.ref (E.2.2.1 k) :: rest) :=
  z_getN C hk hX hc hin hj hw hq rfl hd kk
theorem z_putIN (C : ZC p R s m args meth c cc nL T own E cl N G A X kc ks s.heap) {k ci i j n a : Nat} {host : String} {K : String} {F : u_T} {x : Int32} (tf : Nat → FieldType) (hk : k < X.1) (hX : X.2.1 k = (0, ci)) (hc : cl[ci]? = some (K, F, n)) (hin : ∀ w ∈ u_ws K F n, w ∈ T) (hty : ∀ k, k < n → parseFieldDescriptor (F k).2.2.1 = some (tf k)) (hnm : ∀ a, a < n → ∀ b, b < n → a ≠ b → (F a).2.1 ≠ (F b).2.1) (hj : j < n) (hw : Cond.fieldLinkNest own i (F j).1 (F j).2.1 (F j).2.2.1 host ∈ N) (hfin : (F j).2.2.2 = false) (hdesc : parseFieldDescriptor (F j).2.2.1 = some .int) (hq : (X.2.2 ci)[j]? = some (0, a)) (hd : decode cc pc = .ok (.putfield i, 3)) (kk : ∀ h2 : zH, h2 = zi h k j x → ZW p l e R s m args below meth c Q X E cl A s.heap nL kc ks h2 (pc + 3) lv (rest)) : ZW p l e R s m args below meth c Q X E cl A s.heap nL kc ks h (pc) lv (.int x :: .ref (E.2.2.1 k) :: rest) := by
  intro H locs ls hP hD hS hL
  have hl : j < (zf E h k (X.2.2 ci)).length := by rw [zf_len]; exact (List.getElem?_eq_some_iff.mp hq).1
  refine va_putN (D := E.1) C.1.1 C.1.2.1 C.1.2.2.2.2 hin tf hty hnm C.1.2.2.2.1 C.2.1 hP hD hS k (by rw [zw_at hk, ze_obj hX]) hc j hj (va_Nw.use rfl (C.2.2.1 _ hw)) (fun _ h9 => h9) hfin hdesc rfl rfl hl hd (fun H1 locs1 hP1 hD1 hS1 => ?_)
  rw [zw_fi hk hX hq] at hP1 hD1
  exact kk _ rfl H1 locs1 ls hP1 hD1 hS1 hL
theorem z_putLN (C : ZC p R s m args meth c cc nL T own E cl N G A X kc ks s.heap) {k ci i j n a : Nat} {host : String} {K : String} {F : u_T} {x : Int64} (tf : Nat → FieldType) (hk : k < X.1) (hX : X.2.1 k = (0, ci)) (hc : cl[ci]? = some (K, F, n)) (hin : ∀ w ∈ u_ws K F n, w ∈ T) (hty : ∀ k, k < n → parseFieldDescriptor (F k).2.2.1 = some (tf k)) (hnm : ∀ a, a < n → ∀ b, b < n → a ≠ b → (F a).2.1 ≠ (F b).2.1) (hj : j < n) (hw : Cond.fieldLinkNest own i (F j).1 (F j).2.1 (F j).2.2.1 host ∈ N) (hfin : (F j).2.2.2 = false) (hdesc : parseFieldDescriptor (F j).2.2.1 = some .long) (hq : (X.2.2 ci)[j]? = some (1, a)) (hd : decode cc pc = .ok (.putfield i, 3)) (kk : ∀ h2 : zH, h2 = zl h k j x → ZW p l e R s m args below meth c Q X E cl A s.heap nL kc ks h2 (pc + 3) lv (rest)) : ZW p l e R s m args below meth c Q X E cl A s.heap nL kc ks h (pc) lv (.long x :: .ref (E.2.2.1 k) :: rest) := by
  intro H locs ls hP hD hS hL
  have hl : j < (zf E h k (X.2.2 ci)).length := by rw [zf_len]; exact (List.getElem?_eq_some_iff.mp hq).1
  refine va_putN (D := E.1) C.1.1 C.1.2.1 C.1.2.2.2.2 hin tf hty hnm C.1.2.2.2.1 C.2.1 hP hD hS k (by rw [zw_at hk, ze_obj hX]) hc j hj (va_Nw.use rfl (C.2.2.1 _ hw)) (fun _ h9 => h9) hfin hdesc rfl rfl hl hd (fun H1 locs1 hP1 hD1 hS1 => ?_)
  rw [zw_fl hk hX hq] at hP1 hD1
  exact kk _ rfl H1 locs1 ls hP1 hD1 hS1 hL
theorem z_putRN (C : ZC p R s m args meth c cc nL T own E cl N G A X kc ks s.heap) {k ci i j n a : Nat} {host : String} {K : String} {F : u_T} {x : Nat} (tf : Nat → FieldType) (hk : k < X.1) (hX : X.2.1 k = (0, ci)) (hc : cl[ci]? = some (K, F, n)) (hin : ∀ w ∈ u_ws K F n, w ∈ T) (hty : ∀ k, k < n → parseFieldDescriptor (F k).2.2.1 = some (tf k)) (hnm : ∀ a, a < n → ∀ b, b < n → a ≠ b → (F a).2.1 ≠ (F b).2.1) (hj : j < n) (hw : Cond.fieldLinkNest own i (F j).1 (F j).2.1 (F j).2.2.1 host ∈ N) (hfin : (F j).2.2.2 = false) {ty : FieldType} (hdesc : parseFieldDescriptor (F j).2.2.1 = some ty) (hnar : ∀ a : Nat, narrow ty (.ref a) = .ref a) (hfit : ∀ a : Nat, fits ty (.ref a) = true) (hq : (X.2.2 ci)[j]? = some (4, a)) (hd : decode cc pc = .ok (.putfield i, 3)) (kk : ∀ h2 : zH, h2 = zr h k j x → ZW p l e R s m args below meth c Q X E cl A s.heap nL kc ks h2 (pc + 3) lv (rest)) : ZW p l e R s m args below meth c Q X E cl A s.heap nL kc ks h (pc) lv (.ref (E.2.2.1 x) :: .ref (E.2.2.1 k) :: rest) := by
  intro H locs ls hP hD hS hL
  have hl : j < (zf E h k (X.2.2 ci)).length := by rw [zf_len]; exact (List.getElem?_eq_some_iff.mp hq).1
  refine va_putN (D := E.1) C.1.1 C.1.2.1 C.1.2.2.2.2 hin tf hty hnm C.1.2.2.2.1 C.2.1 hP hD hS k (by rw [zw_at hk, ze_obj hX]) hc j hj (va_Nw.use rfl (C.2.2.1 _ hw)) (fun _ h9 => h9) hfin hdesc (hnar _) (hfit _) hl hd (fun H1 locs1 hP1 hD1 hS1 => ?_)
  rw [zw_fr hk hX hq] at hP1 hD1
  exact kk _ rfl H1 locs1 ls hP1 hD1 hS1 hL
theorem z_iald (C : ZC p R s m args meth c cc nL T own E cl N G A X kc ks s.heap) {k n : Nat} {i : Int32} (hk : k < X.1) (hX : X.2.1 k = (1, n)) (hi : vp_in i n) (hd : decode cc pc = .ok (.iaload, 1)) (kk : ZW p l e R s m args below meth c Q X E cl A s.heap nL kc ks h (pc + 1) lv (.int (h.1 k i.toNatClampNeg) :: rest)) : ZW p l e R s m args below meth c Q X E cl A s.heap nL kc ks h (pc) lv (.int i :: .ref (E.2.2.1 k) :: rest) := by
  intro H locs ls hP hD hS hL
  exact va_iald (D := E.1) C.1.1 C.1.2.1 C.2.1 hP k 0 (by rw [zw_at hk, ze_int hX]) rfl hi hd (kk H locs ls hP hD hS hL)
theorem z_lald (C : ZC p R s m args meth c cc nL T own E cl N G A X kc ks s.heap) {k n : Nat} {i : Int32} (hk : k < X.1) (hX : X.2.1 k = (2, n)) (hi : vp_in i n) (hd : decode cc pc = .ok (.laload, 1)) (kk : ZW p l e R s m args below meth c Q X E cl A s.heap nL kc ks h (pc + 1) lv (.long (h.2.1 k i.toNatClampNeg) :: rest)) : ZW p l e R s m args below meth c Q X E cl A s.heap nL kc ks h (pc) lv (.int i :: .ref (E.2.2.1 k) :: rest) := by
  intro H locs ls hP hD hS hL
  exact va_lald (D := E.1) C.1.1 C.1.2.1 C.2.1 hP k 1 (by rw [zw_at hk, ze_long hX]) rfl hi hd (kk H locs ls hP hD hS hL)
theorem z_iast (C : ZC p R s m args meth c cc nL T own E cl N G A X kc ks s.heap) {k n : Nat} {i x : Int32} (hk : k < X.1) (hX : X.2.1 k = (1, n)) (hi : vp_in i n) (hd : decode cc pc = .ok (.iastore, 1)) (kk : ∀ h2 : zH, h2 = zi h k i.toNatClampNeg x → ZW p l e R s m args below meth c Q X E cl A s.heap nL kc ks h2 (pc + 1) lv (rest)) : ZW p l e R s m args below meth c Q X E cl A s.heap nL kc ks h (pc) lv (.int x :: .int i :: .ref (E.2.2.1 k) :: rest) := by
  intro H locs ls hP hD hS hL
  refine va_iast (D := E.1) C.1.1 C.1.2.1 C.2.1 hP hD hS k 0 (by rw [zw_at hk, ze_int hX]) rfl hi hd (fun H1 locs1 hP1 hD1 hS1 => ?_)
  rw [zw_int hk hX] at hP1 hD1
  exact kk _ rfl H1 locs1 ls hP1 hD1 hS1 hL
theorem z_last (C : ZC p R s m args meth c cc nL T own E cl N G A X kc ks s.heap) {k n : Nat} {i : Int32} {x : Int64} (hk : k < X.1) (hX : X.2.1 k = (2, n)) (hi : vp_in i n) (hd : decode cc pc = .ok (.lastore, 1)) (kk : ∀ h2 : zH, h2 = zl h k i.toNatClampNeg x → ZW p l e R s m args below meth c Q X E cl A s.heap nL kc ks h2 (pc + 1) lv (rest)) : ZW p l e R s m args below meth c Q X E cl A s.heap nL kc ks h (pc) lv (.long x :: .int i :: .ref (E.2.2.1 k) :: rest) := by
  intro H locs ls hP hD hS hL
  refine va_last (D := E.1) C.1.1 C.1.2.1 C.2.1 hP hD hS k 1 (by rw [zw_at hk, ze_long hX]) rfl hi hd (fun H1 locs1 hP1 hD1 hS1 => ?_)
  rw [zw_long hk hX] at hP1 hD1
  exact kk _ rfl H1 locs1 ls hP1 hD1 hS1 hL
theorem z_alenI (C : ZC p R s m args meth c cc nL T own E cl N G A X kc ks s.heap) {k n : Nat} {v : Int32} (hk : k < X.1) (hX : X.2.1 k = (1, n)) (hv : Int32.ofNat n = v) (hd : decode cc pc = .ok (.arraylength, 1)) (kk : ZW p l e R s m args below meth c Q X E cl A s.heap nL kc ks h (pc + 1) lv (.int v :: rest)) : ZW p l e R s m args below meth c Q X E cl A s.heap nL kc ks h (pc) lv (.ref (E.2.2.1 k) :: rest) := by
  intro H locs ls hP hD hS hL
  exact va_alen (D := E.1) C.1.1 C.1.2.1 C.2.1 hP k 0 (by rw [zw_at hk, ze_int hX]) rfl hv hd (kk H locs ls hP hD hS hL)
theorem z_gets (C : ZC p R s m args meth c cc nL T own E cl N G A X kc ks s.heap) {i : Nat} {K n d : String} {v : Value} (hZ : va_Z K n d v A s s.heap) (hw : Cond.fieldLink own i K n d ∈ T) (hd : decode cc pc = .ok (.getstatic i, 3)) (k : ZW p l e R s m args below meth c Q X E cl A s.heap nL kc ks h (pc + 3) lv (v :: rest)) : ZW p l e R s m args below meth c Q X E cl A s.heap nL kc ks h (pc) lv (rest) := fun H locs ls hP hD hS hL => va_gets C.1.1 C.1.2.1 hZ hS C.1.2.2.2.1 (C.1.2.2.2.2 _ hw) (fun _ h9 => h9) hd (k H locs ls hP hD hS hL)
theorem z_getc (C : ZC p R s m args meth c cc nL T own E cl N G A X kc ks s.heap) {i q : Nat} {K n d : String} {v : Value} (hE : va_OF K n d v q A s s.heap) (hw : Cond.fieldLink own i K n d ∈ T) (hd : decode cc pc = .ok (.getfield i, 3)) (k : ZW p l e R s m args below meth c Q X E cl A s.heap nL kc ks h (pc + 3) lv (v :: rest)) : ZW p l e R s m args below meth c Q X E cl A s.heap nL kc ks h (pc) lv (.ref q :: rest) := fun H locs ls hP hD hS hL => vk_getf C.1.1 C.1.2.1 hE hS C.1.2.2.2.1 (C.1.2.2.2.2 _ hw) (fun _ h9 => h9) hd (k H locs ls hP hD hS hL)
theorem z_tlen (C : ZC p R s m args meth c cc nL T own E cl N G A X kc ks s.heap) {t n : Nat} {ty : FieldType} {f : Nat → Value} (hT : va_T ty t n f A s s.heap) (hd : decode cc pc = .ok (.arraylength, 1)) (k : ZW p l e R s m args below meth c Q X E cl A s.heap nL kc ks h (pc + 1) lv (.int (Int32.ofNat n) :: rest)) : ZW p l e R s m args below meth c Q X E cl A s.heap nL kc ks h (pc) lv (.ref t :: rest) := fun H locs ls hP hD hS hL => va_tlen C.1.1 C.1.2.1 hT hS rfl hd (k H locs ls hP hD hS hL)
theorem z_tb (C : ZC p R s m args meth c cc nL T own E cl N G A X kc ks s.heap) {t n : Nat} {f : Nat → Value} {i : Int32} {v : Value} (hT : va_T .byte t n f A s s.heap) (hi : vp_in i n) (hv : f i.toNatClampNeg = v) (hd : decode cc pc = .ok (.baload, 1)) (k : ZW p l e R s m args below meth c Q X E cl A s.heap nL kc ks h (pc + 1) lv (v :: rest)) : ZW p l e R s m args below meth c Q X E cl A s.heap nL kc ks h (pc) lv (.int i :: .ref t :: rest) := fun H locs ls hP hD hS hL => va_tb C.1.1 C.1.2.1 hT hS hi hv hd (k H locs ls hP hD hS hL)
theorem z_mmax (C : ZC p R s m args meth c cc nL T own E cl N G A X kc ks s.heap) {i : Nat} {x y : Int32} (h1 : Cond.methodLink own i Lib.Math.max.name ∈ T) (h2 : Cond.static Lib.Math.max.name ∈ T) (h3 : Cond.initialized "java/lang/Math" ∈ T) (h4 : Cond.code Lib.Math.max.name Lib.Math.max.code 2 (some .int) ∈ T) (hf : 1 ≤ R.frames) (hlo : (rest.map fun v => v.category).sum + 13 ≤ R.locals) (hd : decode cc pc = .ok (.invokestatic i, 3)) (kk : ZW p l e R s m args below meth c Q X E cl A s.heap nL kc ks h (pc + 3) lv (.int (if x < y then y else x) :: rest)) : ZW p l e R s m args below meth c Q X E cl A s.heap nL kc ks h (pc) lv (.int y :: .int x :: rest) := fun H locs ls hP hD hS hL =>
  va_mmax C.1.1 C.1.2.1 (C.1.2.2.1.trans hL.1.symm) C.1.2.2.2.1 (C.1.2.2.2.2 _ h1) (C.1.2.2.2.2 _ h2) (C.1.2.2.2.2 _ h3) (C.1.2.2.2.2 _ h4) hf hlo C.2.2.2.2.1.1 C.2.2.2.2.1.2 hd (kk H locs ls hP hD hS hL)
theorem z_mmin (C : ZC p R s m args meth c cc nL T own E cl N G A X kc ks s.heap) {i : Nat} {x y : Int32} (h1 : Cond.methodLink own i Lib.Math.min.name ∈ T) (h2 : Cond.static Lib.Math.min.name ∈ T) (h3 : Cond.initialized "java/lang/Math" ∈ T) (h4 : Cond.code Lib.Math.min.name Lib.Math.min.code 2 (some .int) ∈ T) (hf : 1 ≤ R.frames) (hlo : (rest.map fun v => v.category).sum + 13 ≤ R.locals) (hd : decode cc pc = .ok (.invokestatic i, 3)) (kk : ZW p l e R s m args below meth c Q X E cl A s.heap nL kc ks h (pc + 3) lv (.int (if y < x then y else x) :: rest)) : ZW p l e R s m args below meth c Q X E cl A s.heap nL kc ks h (pc) lv (.int y :: .int x :: rest) := fun H locs ls hP hD hS hL =>
  va_mmin C.1.1 C.1.2.1 (C.1.2.2.1.trans hL.1.symm) C.1.2.2.2.1 (C.1.2.2.2.2 _ h1) (C.1.2.2.2.2 _ h2) (C.1.2.2.2.2 _ h3) (C.1.2.2.2.2 _ h4) hf hlo C.2.2.2.2.1.1 C.2.2.2.2.1.2 hd (kk H locs ls hP hD hS hL)
theorem z_mmaxL (C : ZC p R s m args meth c cc nL T own E cl N G A X kc ks s.heap) {i : Nat} {x y : Int64} (h1 : Cond.methodLink own i Lib.MathLoose.max_long.x ∈ T) (h2 : Cond.static Lib.MathLoose.max_long.x ∈ T) (h3 : Cond.initialized "java/lang/Math" ∈ T) (h4 : Cond.code Lib.MathLoose.max_long.x Lib.MathLoose.max_long.code 4 (some .long) ∈ T) (hf : 1 ≤ R.frames) (hlo : (rest.map fun v => v.category).sum + 15 ≤ R.locals) (hd : decode cc pc = .ok (.invokestatic i, 3)) (kk : ZW p l e R s m args below meth c Q X E cl A s.heap nL kc ks h (pc + 3) lv (.long (if y < x then x else y) :: rest)) : ZW p l e R s m args below meth c Q X E cl A s.heap nL kc ks h (pc) lv (.long y :: .long x :: rest) := fun H locs ls hP hD hS hL =>
  va_mmax_long C.1.1 C.1.2.1 (C.1.2.2.1.trans hL.1.symm) C.1.2.2.2.1 (C.1.2.2.2.2 _ h1) (C.1.2.2.2.2 _ h2) (C.1.2.2.2.2 _ h3) (C.1.2.2.2.2 _ h4) hf hlo C.2.2.2.2.1.1 C.2.2.2.2.1.2 hd (kk H locs ls hP hD hS hL)
theorem z_mminL (C : ZC p R s m args meth c cc nL T own E cl N G A X kc ks s.heap) {i : Nat} {x y : Int64} (h1 : Cond.methodLink own i Lib.MathLoose.min_long.x ∈ T) (h2 : Cond.static Lib.MathLoose.min_long.x ∈ T) (h3 : Cond.initialized "java/lang/Math" ∈ T) (h4 : Cond.code Lib.MathLoose.min_long.x Lib.MathLoose.min_long.code 4 (some .long) ∈ T) (hf : 1 ≤ R.frames) (hlo : (rest.map fun v => v.category).sum + 15 ≤ R.locals) (hd : decode cc pc = .ok (.invokestatic i, 3)) (kk : ZW p l e R s m args below meth c Q X E cl A s.heap nL kc ks h (pc + 3) lv (.long (if y < x then y else x) :: rest)) : ZW p l e R s m args below meth c Q X E cl A s.heap nL kc ks h (pc) lv (.long y :: .long x :: rest) := fun H locs ls hP hD hS hL =>
  va_mmin_long C.1.1 C.1.2.1 (C.1.2.2.1.trans hL.1.symm) C.1.2.2.2.1 (C.1.2.2.2.2 _ h1) (C.1.2.2.2.2 _ h2) (C.1.2.2.2.2 _ h3) (C.1.2.2.2.2 _ h4) hf hlo C.2.2.2.2.1.1 C.2.2.2.2.1.2 hd (kk H locs ls hP hD hS hL)
theorem z_mabs (C : ZC p R s m args meth c cc nL T own E cl N G A X kc ks s.heap) {i : Nat} {x : Int32} (h1 : Cond.methodLink own i Lib.Math.abs.name ∈ T) (h2 : Cond.static Lib.Math.abs.name ∈ T) (h3 : Cond.initialized "java/lang/Math" ∈ T) (h4 : Cond.code Lib.Math.abs.name Lib.Math.abs.code 1 (some .int) ∈ T) (hf : 1 ≤ R.frames) (hlo : (rest.map fun v => v.category).sum + 13 ≤ R.locals) (hd : decode cc pc = .ok (.invokestatic i, 3)) (kk : ZW p l e R s m args below meth c Q X E cl A s.heap nL kc ks h (pc + 3) lv (.int (if 0 ≤ x then x else 0 - x) :: rest)) : ZW p l e R s m args below meth c Q X E cl A s.heap nL kc ks h (pc) lv (.int x :: rest) := fun H locs ls hP hD hS hL =>
  va_mabs C.1.1 C.1.2.1 (C.1.2.2.1.trans hL.1.symm) C.1.2.2.2.1 (C.1.2.2.2.2 _ h1) (C.1.2.2.2.2 _ h2) (C.1.2.2.2.2 _ h3) (C.1.2.2.2.2 _ h4) hf hlo C.2.2.2.2.1.1 C.2.2.2.2.1.2 hd (kk H locs ls hP hD hS hL)
theorem z_mabsL (C : ZC p R s m args meth c cc nL T own E cl N G A X kc ks s.heap) {i : Nat} {x : Int64} (h1 : Cond.methodLink own i Lib.MathLoose.abs_long.x ∈ T) (h2 : Cond.static Lib.MathLoose.abs_long.x ∈ T) (h3 : Cond.initialized "java/lang/Math" ∈ T) (h4 : Cond.code Lib.MathLoose.abs_long.x Lib.MathLoose.abs_long.code 2 (some .long) ∈ T) (hf : 1 ≤ R.frames) (hlo : (rest.map fun v => v.category).sum + 13 ≤ R.locals) (hd : decode cc pc = .ok (.invokestatic i, 3)) (kk : ZW p l e R s m args below meth c Q X E cl A s.heap nL kc ks h (pc + 3) lv (.long (if 0 < x then x else -x) :: rest)) : ZW p l e R s m args below meth c Q X E cl A s.heap nL kc ks h (pc) lv (.long x :: rest) := fun H locs ls hP hD hS hL =>
  va_mabs_long C.1.1 C.1.2.1 (C.1.2.2.1.trans hL.1.symm) C.1.2.2.2.1 (C.1.2.2.2.2 _ h1) (C.1.2.2.2.2 _ h2) (C.1.2.2.2.2 _ h3) (C.1.2.2.2.2 _ h4) hf hlo C.2.2.2.2.1.1 C.2.2.2.2.1.2 hd (kk H locs ls hP hD hS hL)
end ZZ
/-! CONTRACTS: from h with the arguments av the method answers r, and the cells hold h' -/
def zB (X : zX) (E : zE) (cl : List vw_C) (N : List Cond) (G : (Nat → Prop) → State → Prop) (h : zH) (sz : Nat) (U : State) : Prop := U.heap.size = sz ∧ va_P E.1 cl (zw X E h) U.heap ∧ va_K E.1 cl (zty E) U ∧ va_D (fun _ => True) (zw X E h) ∧ (∀ w ∈ N, va_Nw w U) ∧ G (zA X E sz) U
def zQ (X : zX) (E : zE) (cl : List vw_C) (A : Nat → Prop) (post : Option Value → zH → Prop) : Array Value → State → Outcome → State → Prop := fun _ st o t => (∃ (r : Option Value) (h' : zH), o = .returned r ∧ post r h' ∧ va_P E.1 cl (zw X E h') t.heap) ∧ va_F A st t
def zPi (post : Int32 → zH → Prop) : Option Value → zH → Prop := fun r h' => ∃ v : Int32, r = some (.int v) ∧ post v h'
def zPl (post : Int64 → zH → Prop) : Option Value → zH → Prop := fun r h' => ∃ v : Int64, r = some (.long v) ∧ post v h'
def zPv (post : zH → Prop) : Option Value → zH → Prop := fun r h' => r = none ∧ post h'
def Ct (l : Launch) (X : zX) (E : zE) (cl : List vw_C) (N T : List Cond) (G : (Nat → Prop) → State → Prop) (d w : Nat) (y : MethodName) (cc : ByteArray) (nL : Nat) (ret : Option FieldType) (av : List Value) (h : zH) (post : Option Value → zH → Prop) : Prop :=
  ∀ sz : Nat, Met l y (Cond.code y cc nL ret :: T) (zrm d w) (va_Pc av (zB X E cl N G h sz)) (zQ X E cl (zA X E sz) post) 0 0 (zA X E sz)
/-- a ground that stays: the calls' state has it too -/
def zGr (G : (Nat → Prop) → State → Prop) : Prop := (∀ (A B : Nat → Prop) (s U : State) (locs : List Loc), G A s → va_S A s.heap U.heap locs → s.WarmedH U.vm → (∀ q, B q → A q) → G B U) ∧ ∀ (B : Nat → Prop) (U : State) (g : JFrame) (mk : MethodId) (a : Array Value), G B U → G B (U.calling g mk a)
def zNest (w : Cond) : Bool := match w with
  | .fieldLinkNest .. => true
  | .methodLinkNest .. => true
  | _ => false
theorem zNest_on {w : Cond} (h : zNest w = true) : w.onTables = true := by
  cases w <;> first | rfl | (simp [zNest] at h)
theorem zNest_warm {w : Cond} (h : zNest w = true) {s U : State} (hW : s.WarmedH U.vm) (hz : va_Nw w s) : va_Nw w U := by
  cases w <;> first | exact va_Nw.warmF hW hz | exact va_Nw.warmM hW hz | (simp [zNest] at h)
/-- a method's walk gives its contract -/
theorem Ct.of {l : Launch} {X : zX} {E : zE} {cl : List vw_C} {N T : List Cond} {G : (Nat → Prop) → State → Prop} {d w : Nat} {y : MethodName} {cc : ByteArray} {nL : Nat} {ret : Option FieldType} {av : List Value} {h : zH} {post : Option Value → zH → Prop} (hy : plainName y.cls = true) (hav : (lg_sl av).length ≤ nL)
    (body : ∀ (p : Program) (e : Env) (s : State) (m : MethodId) (below : List Frame) (meth : Method) (c : Code) (A : Nat → Prop), ZC p (zrm d w) s m av.toArray meth c cc nL T y.cls E cl N G A X 0 0 s.heap → meth.sig.returnType = ret →
      ZW p l e (zrm d w) s m av.toArray below meth c (MQ below (zQ X E cl A post) av.toArray s 0 0 A) X E cl A s.heap nL 0 0 h 0 (zlv av nL) []) : Ct l X E cl N T G d w y cc nL ret av h post := by
  intro sz
  refine Met.ofW (cc := cc) (maxL := nL) (ret := ret) hy rfl ?_
  intro p e s m args below meth c s₁ B hml hv
  obtain ⟨rfl, hsz, hP, hK, hD0, hN, hGG⟩ := hv
  subst hsz
  have hts := atoms_spec (ws := Cond.code y cc nL ret :: T) B.pre
  have hown : s.vm.findClass y.cls = some m.cls := findClass_of_methodNamed B.named
  have C : ZC p (zrm d w) s m av.toArray meth c cc nL T y.cls E cl N G (zA X E s.heap.size) X 0 0 s.heap := ⟨⟨B.exec, B.bytes, hml, hown, fun w hw => hts w (List.mem_cons_of_mem _ hw)⟩, hK, hN, B.notSynchronized, ⟨Nat.zero_le _, Nat.zero_le _⟩, fun q hq => Or.inr hq, hGG⟩
  have hD : va_D (zA X E s.heap.size) (zw X E h) := hD0.weaken (fun k q hq _ => by
    have hk : k < X.1 := by
      have := (List.getElem?_eq_some_iff.mp hq).1
      simpa [zw] using this
    rw [zw_at hk] at hq
    cases hq
    exact Or.inl ⟨k, hk, rfl⟩)
  have hl := lv_entry av (n := nL) hav
  rw [lg_entry_eq]
  generalize (lg_sl av ++ List.replicate (nL - (lg_sl av).length) Slot.unset).toArray = ls at hl ⊢
  exact body p e s m below meth c _ C B.returns s.heap [] ls hP hD va_S.rf (zlv_in hl)
section ZR

variable {p : Program} {l : Launch} {e : Env} {R : Room} {s : State} {m : MethodId} {args : Array Value} {below : List Frame} {meth : Method} {c : Code} 
variable {cc : ByteArray} {nL : Nat} {T : List Cond} {own : String} {X : zX} {E : zE} {cl : List vw_C} {N : List Cond} {A : Nat → Prop} {G : (Nat → Prop) → State → Prop}
variable {h : zH} {pc : Nat} {lv : List (Option Value)} {rest : List Value}

theorem z_iret {post : Int32 → zH → Prop} (C : ZC p R s m args meth c cc nL T own E cl N G A X 0 0 s.heap) (hr : meth.sig.returnType = some .int) {v : Int32} (hd : decode cc pc = .ok (.ireturn, 1)) (e1 : post v h) : ZW p l e R s m args below meth c (MQ below (zQ X E cl A (zPi post)) args s 0 0 A) X E cl A s.heap nL 0 0 h (pc) lv (.int v :: []) := by
  intro H locs ls hP hD hS hL
  exact W.iret C.1.1 C.1.2.1 hr (fun t ht hW => ⟨⟨_, h, rfl, ⟨v, rfl, e1⟩, by rw [ht]; exact hP⟩, hS.F ht⟩) hS.2.2 hd C.2.2.2.1
theorem z_lret {post : Int64 → zH → Prop} (C : ZC p R s m args meth c cc nL T own E cl N G A X 0 0 s.heap) (hr : meth.sig.returnType = some .long) {v : Int64} (hd : decode cc pc = .ok (.lreturn, 1)) (e1 : post v h) : ZW p l e R s m args below meth c (MQ below (zQ X E cl A (zPl post)) args s 0 0 A) X E cl A s.heap nL 0 0 h (pc) lv (.long v :: []) := by
  intro H locs ls hP hD hS hL
  exact W.lret C.1.1 C.1.2.1 hr (fun t ht hW => ⟨⟨_, h, rfl, ⟨v, rfl, e1⟩, by rw [ht]; exact hP⟩, hS.F ht⟩) hS.2.2 hd C.2.2.2.1
theorem z_zret {post : Int32 → zH → Prop} (C : ZC p R s m args meth c cc nL T own E cl N G A X 0 0 s.heap) {ty : FieldType} (hr : meth.sig.returnType = some ty) {v : Int32} (hn : narrow ty (.int v) = .int v) (hd : decode cc pc = .ok (.ireturn, 1)) (e1 : post v h) : ZW p l e R s m args below meth c (MQ below (zQ X E cl A (zPi post)) args s 0 0 A) X E cl A s.heap nL 0 0 h (pc) lv (.int v :: []) := by
  intro H locs ls hP hD hS hL
  exact W.zret C.1.1 C.1.2.1 hr hn (fun t ht hW => ⟨⟨_, h, rfl, ⟨v, rfl, e1⟩, by rw [ht]; exact hP⟩, hS.F ht⟩) hS.2.2 hd C.2.2.2.1
theorem z_vret {post : zH → Prop} (C : ZC p R s m args meth c cc nL T own E cl N G A X 0 0 s.heap) (hr : meth.sig.returnType = none) (hd : decode cc pc = .ok (.return_, 1)) (e1 : post h) : ZW p l e R s m args below meth c (MQ below (zQ X E cl A (zPv post)) args s 0 0 A) X E cl A s.heap nL 0 0 h (pc) lv ([]) := by
  intro H locs ls hP hD hS hL
  exact W.vret C.1.1 C.1.2.1 hr (fun t ht hW => ⟨⟨_, h, rfl, ⟨rfl, e1⟩, by rw [ht]; exact hP⟩, hS.F ht⟩) hS.2.2 hd C.2.2.2.1
end ZR
section ZK

variable {p : Program} {l : Launch} {e : Env} {R : Room} {s : State} {m : MethodId} {args : Array Value} {below : List Frame} {meth : Method} {c : Code} {Q : State → Prop}
variable {cc : ByteArray} {nL : Nat} {T : List Cond} {own : String} {X : zX} {E : zE} {cl : List vw_C} {N : List Cond} {A : Nat → Prop} {kc ks : Nat} {G : (Nat → Prop) → State → Prop}
variable {h : zH} {pc : Nat} {lv : List (Option Value)} {rest : List Value}

/-- behind a call -/
theorem z_back {st0 : List Value} {av : Array Value} {post : Option Value → zH → Prop} {ls : Array Slot} {H : Heap} {locs : List Loc} (hAA : ∀ q, q < H.size → zA X E H.size q → A q) (hAf : ∀ q, zA X E H.size q → A q) (hD : va_D A (zw X E h)) (hS : va_S A s.heap H locs) (hL : zLH ls nL lv)
    (hrun : va_Run p l e R s m args below meth c H locs kc ks 0 0 (F0 m pc ls st0) rest (zQ X E cl (zA X E H.size) post av) (zA X E H.size))
    (kk : ∀ (r : Option Value) (h2 : zH), post r h2 → ZW p l e R s m args below meth c Q X E cl A s.heap nL kc ks h2 (pc + 3) lv (r.toList ++ rest)) : W p l e R s m args below meth c H locs kc ks Q (F0 m pc ls st0) := by
  intro T0 hT X0
  obtain ⟨v, st₀, t, T', L, h0, X', hL2, e1, e2, ⟨⟨r2, h3, hv, hpo, hP2⟩, hz, hk⟩, st⟩ := hrun T0 hT X0
  cases hv
  rw [h0] at hz hk
  have hS2 : va_S A s.heap T'.heap (locs ++ L) := ⟨Nat.le_trans hS.1 (by rw [e1]; exact hz), fun q h1 h2 => by rw [e1, hk q (Nat.lt_of_lt_of_le h1 hS.1) (fun z => h2 (hAA q (Nat.lt_of_lt_of_le h1 hS.1) z))]; exact hS.2.1 q h1 h2, fun q hq => by
      rcases List.mem_append.mp hq with h | h
      · exact hS.2.2 q h
      · exact hAf _ (hL2 q h)⟩
  obtain ⟨t2, a1, b1⟩ := kk _ h3 hpo T'.heap (locs ++ L) ls (by rw [e1]; exact hP2) (zw_D hD) hS2 hL T' rfl X'
  exact ⟨t2, st t2 a1, b1⟩
theorem z_in {H : Heap} {locs : List Loc} (C : ZC p R s m args meth c cc nL T own E cl N G A X kc ks s.heap) (hD : va_D A (zw X E h)) (hS : va_S A s.heap H locs) : ∀ q, zA X E H.size q → A q := by
  intro q hq
  rcases hq with ⟨k, hk, rfl⟩ | hq
  · exact hD.2 k _ (zw_at hk)
  · exact C.2.2.2.2.2.1 q (Nat.le_trans hS.1 hq)
theorem z_pre {H : Heap} {locs : List Loc} {av : List Value} (hN : (∀ w ∈ N, zNest w = true) ∧ zGr G) (C : ZC p R s m args meth c cc nL T own E cl N G A X kc ks s.heap) (hS : va_S A s.heap H locs) (hP : va_P E.1 cl (zw X E h) H) (hD : va_D A (zw X E h)) : PreS s H (va_Pc av (zB X E cl N G h H.size)) av := by
  refine ⟨fun a U g mk q => ?_, fun U hU hW => ?_⟩
  · obtain ⟨q0, q1, qP, qK, qD, qN, qG⟩ := q
    exact ⟨q0, q1, qP, va_K.moved (u := U) (U := U.calling g mk a) (Vm.Alike.refl U.vm) qK, qD, fun w hw => va_Nw.same (zNest_on (hN.1 w hw)) (u := U) (U := U.calling g mk a) rfl (qN w hw), hN.2.2 _ U g mk a qG⟩
  · exact ⟨rfl, by rw [hU], by rw [hU]; exact hP, va_K.moved hW.alike C.2.1, hD.weaken (fun _ _ _ _ => trivial), fun w hw => zNest_warm (hN.1 w hw) hW (C.2.2.1 w hw), hN.2.1 A _ s U locs C.2.2.2.2.2.2 (by rw [hU]; exact hS) hW (z_in C hD hS)⟩
def zGood (T : List Cond) : Prop := ∀ w ∈ T, (w.onTables && w.keeps) = true ∨ ∃ ty, w = .arrayClass ty
theorem zGood.pay (hG : zGood T) (hts : ∀ w ∈ T, w.before args s = true) {w0 : Cond} (h0 : w0 ∈ T) : ∀ w ∈ (w0 :: T), ∀ (a' : Array Value) (U : State), s.WarmedH U.vm → w.before a' U = true := by
  intro w hw a' U hW
  have hw2 : w ∈ T := by
    rcases List.mem_cons.mp hw with rfl | h
    · exact h0
    · exact h
  exact word_at hW (hG w hw2) (hts w hw2)
theorem z_room {d2 w2 maxL : Nat} (h : d2 + 1 ≤ R.frames) (h2 : 8 + (maxL + 11) + w2 ≤ R.locals) : (zrm d2 w2).cells = 0 ∧ (zrm d2 w2).slots = 0 ∧ (zrm d2 w2).frames + 1 ≤ R.frames ∧ 8 + (maxL + 11) + (zrm d2 w2).locals ≤ R.locals := ⟨rfl, rfl, h, h2⟩
/-- the words of a call, as a list to look up at once -/
def zwV (own : String) (i : Nat) (y : MethodName) (bytes : ByteArray) (maxL : Nat) (ret : Option FieldType) : List Cond := [.methodLink own i y, .instanceMethod y, .selects y.cls y y, .initialized y.cls, .code y bytes maxL ret]
def zwS (own : String) (i : Nat) (y : MethodName) (bytes : ByteArray) (maxL : Nat) (ret : Option FieldType) : List Cond := [.methodLink own i y, .static y, .initialized y.cls, .code y bytes maxL ret]
def zwVN (y : MethodName) (bytes : ByteArray) (maxL : Nat) (ret : Option FieldType) : List Cond := [.instanceMethod y, .selects y.cls y y, .initialized y.cls, .code y bytes maxL ret]
def zwSN (y : MethodName) (bytes : ByteArray) (maxL : Nat) (ret : Option FieldType) : List Cond := [.static y, .initialized y.cls, .code y bytes maxL ret]
theorem z_lens {y : MethodName} {n : Nat} (h : (parseMethodDescriptor y.desc).map (fun d => d.parameters.length) = some n) : ∀ sig, parseMethodDescriptor y.desc = some sig → n = sig.parameters.length := by
  intro sig hs
  rw [hs] at h
  exact (Option.some.inj h).symm

theorem z_callRi (hN : (∀ w ∈ N, zNest w = true) ∧ zGr G) (hG : zGood T) (C : ZC p R s m args meth c cc nL T own E cl N G A X kc ks s.heap) {y : MethodName} {bytes : ByteArray} {maxL n i d2 w2 : Nat} {ret : Option FieldType} {b : Nat} {As st0 : List Value} {post : Int32 → zH → Prop} (hc : Ct l X E cl N T G d2 w2 y bytes maxL ret (.ref b :: As) h (zPi post)) (hw : ∀ w ∈ zwV own i y bytes maxL ret, w ∈ T) (hrc : ∀ (H : Heap) (locs : List Loc), va_S A s.heap H locs → ∃ cell : Cell, H[b]? = some cell ∧ cell.vm.isStatics = false ∧ s.vm.findClass y.cls = some cell.cls) (hfr : d2 + 1 ≤ R.frames) (hlo : 8 + (maxL + 11) + w2 ≤ R.locals) (hpl : y.cls ≠ "java/lang/invoke/MethodHandle" ∧ y.cls ≠ "java/lang/invoke/VarHandle" ∧ (parseMethodDescriptor y.desc).map (fun d => d.parameters.length) = some n) (hn : As.length = n) (hst : st0 = As.reverse ++ .ref b :: rest) (hW : (rest.map fun v => v.category).sum ≤ 8) (hd : decode cc pc = .ok (.invokevirtual i, 3)) (kk : ∀ (v : Int32) (h2 : zH), post v h2 → ZW p l e R s m args below meth c Q X E cl A s.heap nL kc ks h2 (pc + 3) lv (.int v :: rest)) : ZW p l e R s m args below meth c Q X E cl A s.heap nL kc ks h (pc) lv (st0) := by
  intro H locs ls hP hD hS hL
  have hF := z_in C hD hS
  refine z_back (post := zPi post) (fun q _ hq => hF q hq) hF hD hS hL ?_ (fun r h2 hq => by obtain ⟨v, rfl, q⟩ := hq; exact kk v h2 q) (av := (.ref b :: As).toArray)
  subst hst
  obtain ⟨a1, a2, a3, a4⟩ := z_room (R := R) (maxL := maxL) (w2 := w2) hfr hlo
  have w_ml := hw _ (List.mem_of_getElem? (i := 0) rfl)
  have w_im := hw _ (List.mem_of_getElem? (i := 1) rfl)
  have w_se := hw _ (List.mem_of_getElem? (i := 2) rfl)
  have w_ini := hw _ (List.mem_of_getElem? (i := 3) rfl)
  have w_co := hw _ (List.mem_of_getElem? (i := 4) rfl)
  have hpre := z_pre (av := (.ref b :: As)) hN C hS hP hD
  have hpv : PreV s H y.cls b (va_Pc (.ref b :: As) (zB X E cl N G h H.size)) As := ⟨hpre.1, hrc H locs hS, hpre.2⟩
  exact va_runV (C := y.cls) (As := As) (rest := rest) C.1 (hc H.size) ⟨⟨a1, a2, a3, a4, (hG.pay C.1.2.2.2.2 w_co), List.mem_cons_self, C.1.2.2.2.2 _ w_co, C.1.2.2.2.2 _ w_ini, ⟨hpl.1, hpl.2.1⟩, z_lens hpl.2.2, C.1.2.2.2.2 _ w_ml⟩, C.1.2.2.2.2 _ w_im, C.1.2.2.2.2 _ w_se⟩ hpv rfl hn hL.1 rfl (lv_room hW) hd ⟨C.2.2.2.2.1.1, C.2.2.2.2.1.2⟩
theorem z_callV (hN : (∀ w ∈ N, zNest w = true) ∧ zGr G) (hG : zGood T) (C : ZC p R s m args meth c cc nL T own E cl N G A X kc ks s.heap) {y : MethodName} {bytes : ByteArray} {maxL n i d2 w2 : Nat} {ret : Option FieldType} {b ci nf : Nat} {F : u_T} {As st0 : List Value} {post : Option Value → zH → Prop} (hc : Ct l X E cl N T G d2 w2 y bytes maxL ret (.ref (E.2.2.1 b) :: As) h post) (hw : ∀ w ∈ zwV own i y bytes maxL ret, w ∈ T) (hb : b < X.1) (hX : X.2.1 b = (0, ci)) (hcl : cl[ci]? = some (y.cls, F, nf)) (hfr : d2 + 1 ≤ R.frames) (hlo : 8 + (maxL + 11) + w2 ≤ R.locals) (hpl : y.cls ≠ "java/lang/invoke/MethodHandle" ∧ y.cls ≠ "java/lang/invoke/VarHandle" ∧ (parseMethodDescriptor y.desc).map (fun d => d.parameters.length) = some n) (hn : As.length = n) (hst : st0 = As.reverse ++ .ref (E.2.2.1 b) :: rest) (hW : (rest.map fun v => v.category).sum ≤ 8) (hd : decode cc pc = .ok (.invokevirtual i, 3)) (kk : ∀ (r : Option Value) (h2 : zH), post r h2 → ZW p l e R s m args below meth c Q X E cl A s.heap nL kc ks h2 (pc + 3) lv (r.toList ++ rest)) : ZW p l e R s m args below meth c Q X E cl A s.heap nL kc ks h (pc) lv (st0) := by
  intro H locs ls hP hD hS hL
  have hF := z_in C hD hS
  refine z_back (post := post) (fun q _ hq => hF q hq) hF hD hS hL ?_ kk (av := (.ref (E.2.2.1 b) :: As).toArray)
  subst hst
  obtain ⟨a1, a2, a3, a4⟩ := z_room (R := R) (maxL := maxL) (w2 := w2) hfr hlo
  have w_ml := hw _ (List.mem_of_getElem? (i := 0) rfl)
  have w_im := hw _ (List.mem_of_getElem? (i := 1) rfl)
  have w_se := hw _ (List.mem_of_getElem? (i := 2) rfl)
  have w_ini := hw _ (List.mem_of_getElem? (i := 3) rfl)
  have w_co := hw _ (List.mem_of_getElem? (i := 4) rfl)
  have hpre := z_pre (av := (.ref (E.2.2.1 b) :: As)) hN C hS hP hD
  have hrc := va_recv C.2.1 hP (ci := ci) (q0 := b) hcl (by rw [zw_at hb, ze_obj hX])
  have hpv : PreV s H y.cls (E.2.2.1 b) (va_Pc (.ref (E.2.2.1 b) :: As) (zB X E cl N G h H.size)) As := ⟨hpre.1, hrc, hpre.2⟩
  exact va_runV (C := y.cls) (As := As) (rest := rest) C.1 (hc H.size) ⟨⟨a1, a2, a3, a4, (hG.pay C.1.2.2.2.2 w_co), List.mem_cons_self, C.1.2.2.2.2 _ w_co, C.1.2.2.2.2 _ w_ini, ⟨hpl.1, hpl.2.1⟩, z_lens hpl.2.2, C.1.2.2.2.2 _ w_ml⟩, C.1.2.2.2.2 _ w_im, C.1.2.2.2.2 _ w_se⟩ hpv rfl hn hL.1 rfl (lv_room hW) hd ⟨C.2.2.2.2.1.1, C.2.2.2.2.1.2⟩
theorem z_callVi (hN : (∀ w ∈ N, zNest w = true) ∧ zGr G) (hG : zGood T) (C : ZC p R s m args meth c cc nL T own E cl N G A X kc ks s.heap) {y : MethodName} {bytes : ByteArray} {maxL n i d2 w2 : Nat} {ret : Option FieldType} {b ci nf : Nat} {F : u_T} {As st0 : List Value} {post : Int32 → zH → Prop} (hc : Ct l X E cl N T G d2 w2 y bytes maxL ret (.ref (E.2.2.1 b) :: As) h (zPi post)) (hw : ∀ w ∈ zwV own i y bytes maxL ret, w ∈ T) (hb : b < X.1) (hX : X.2.1 b = (0, ci)) (hcl : cl[ci]? = some (y.cls, F, nf)) (hfr : d2 + 1 ≤ R.frames) (hlo : 8 + (maxL + 11) + w2 ≤ R.locals) (hpl : y.cls ≠ "java/lang/invoke/MethodHandle" ∧ y.cls ≠ "java/lang/invoke/VarHandle" ∧ (parseMethodDescriptor y.desc).map (fun d => d.parameters.length) = some n) (hn : As.length = n) (hst : st0 = As.reverse ++ .ref (E.2.2.1 b) :: rest) (hW : (rest.map fun v => v.category).sum ≤ 8) (hd : decode cc pc = .ok (.invokevirtual i, 3)) (kk : ∀ (v : Int32) (h2 : zH), post v h2 → ZW p l e R s m args below meth c Q X E cl A s.heap nL kc ks h2 (pc + 3) lv (.int v :: rest)) : ZW p l e R s m args below meth c Q X E cl A s.heap nL kc ks h (pc) lv (st0) :=
  z_callV hN hG C hc hw hb hX hcl hfr hlo hpl hn hst hW hd (fun r h2 hq => by obtain ⟨v, rfl, q⟩ := hq; exact kk v h2 q)
theorem z_callVl (hN : (∀ w ∈ N, zNest w = true) ∧ zGr G) (hG : zGood T) (C : ZC p R s m args meth c cc nL T own E cl N G A X kc ks s.heap) {y : MethodName} {bytes : ByteArray} {maxL n i d2 w2 : Nat} {ret : Option FieldType} {b ci nf : Nat} {F : u_T} {As st0 : List Value} {post : Int64 → zH → Prop} (hc : Ct l X E cl N T G d2 w2 y bytes maxL ret (.ref (E.2.2.1 b) :: As) h (zPl post)) (hw : ∀ w ∈ zwV own i y bytes maxL ret, w ∈ T) (hb : b < X.1) (hX : X.2.1 b = (0, ci)) (hcl : cl[ci]? = some (y.cls, F, nf)) (hfr : d2 + 1 ≤ R.frames) (hlo : 8 + (maxL + 11) + w2 ≤ R.locals) (hpl : y.cls ≠ "java/lang/invoke/MethodHandle" ∧ y.cls ≠ "java/lang/invoke/VarHandle" ∧ (parseMethodDescriptor y.desc).map (fun d => d.parameters.length) = some n) (hn : As.length = n) (hst : st0 = As.reverse ++ .ref (E.2.2.1 b) :: rest) (hW : (rest.map fun v => v.category).sum ≤ 8) (hd : decode cc pc = .ok (.invokevirtual i, 3)) (kk : ∀ (v : Int64) (h2 : zH), post v h2 → ZW p l e R s m args below meth c Q X E cl A s.heap nL kc ks h2 (pc + 3) lv (.long v :: rest)) : ZW p l e R s m args below meth c Q X E cl A s.heap nL kc ks h (pc) lv (st0) :=
  z_callV hN hG C hc hw hb hX hcl hfr hlo hpl hn hst hW hd (fun r h2 hq => by obtain ⟨v, rfl, q⟩ := hq; exact kk v h2 q)
theorem z_callVv (hN : (∀ w ∈ N, zNest w = true) ∧ zGr G) (hG : zGood T) (C : ZC p R s m args meth c cc nL T own E cl N G A X kc ks s.heap) {y : MethodName} {bytes : ByteArray} {maxL n i d2 w2 : Nat} {ret : Option FieldType} {b ci nf : Nat} {F : u_T} {As st0 : List Value} {post : zH → Prop} (hc : Ct l X E cl N T G d2 w2 y bytes maxL ret (.ref (E.2.2.1 b) :: As) h (zPv post)) (hw : ∀ w ∈ zwV own i y bytes maxL ret, w ∈ T) (hb : b < X.1) (hX : X.2.1 b = (0, ci)) (hcl : cl[ci]? = some (y.cls, F, nf)) (hfr : d2 + 1 ≤ R.frames) (hlo : 8 + (maxL + 11) + w2 ≤ R.locals) (hpl : y.cls ≠ "java/lang/invoke/MethodHandle" ∧ y.cls ≠ "java/lang/invoke/VarHandle" ∧ (parseMethodDescriptor y.desc).map (fun d => d.parameters.length) = some n) (hn : As.length = n) (hst : st0 = As.reverse ++ .ref (E.2.2.1 b) :: rest) (hW : (rest.map fun v => v.category).sum ≤ 8) (hd : decode cc pc = .ok (.invokevirtual i, 3)) (kk : ∀ (h2 : zH), post h2 → ZW p l e R s m args below meth c Q X E cl A s.heap nL kc ks h2 (pc + 3) lv (rest)) : ZW p l e R s m args below meth c Q X E cl A s.heap nL kc ks h (pc) lv (st0) :=
  z_callV hN hG C hc hw hb hX hcl hfr hlo hpl hn hst hW hd (fun r h2 hq => by obtain ⟨rfl, q⟩ := hq; exact kk h2 q)
theorem z_callS (hN : (∀ w ∈ N, zNest w = true) ∧ zGr G) (hG : zGood T) (C : ZC p R s m args meth c cc nL T own E cl N G A X kc ks s.heap) {y : MethodName} {bytes : ByteArray} {maxL n i d2 w2 : Nat} {ret : Option FieldType} {As st0 : List Value} {post : Option Value → zH → Prop} (hc : Ct l X E cl N T G d2 w2 y bytes maxL ret As h post) (hw : ∀ w ∈ zwS own i y bytes maxL ret, w ∈ T) (hfr : d2 + 1 ≤ R.frames) (hlo : 8 + (maxL + 11) + w2 ≤ R.locals) (hpl : y.cls ≠ "java/lang/invoke/MethodHandle" ∧ y.cls ≠ "java/lang/invoke/VarHandle" ∧ (parseMethodDescriptor y.desc).map (fun d => d.parameters.length) = some n) (hn : As.length = n) (hst : st0 = As.reverse ++ rest) (hW : (rest.map fun v => v.category).sum ≤ 8) (hd : decode cc pc = .ok (.invokestatic i, 3)) (kk : ∀ (r : Option Value) (h2 : zH), post r h2 → ZW p l e R s m args below meth c Q X E cl A s.heap nL kc ks h2 (pc + 3) lv (r.toList ++ rest)) : ZW p l e R s m args below meth c Q X E cl A s.heap nL kc ks h (pc) lv (st0) := by
  intro H locs ls hP hD hS hL
  have hF := z_in C hD hS
  refine z_back (post := post) (fun q _ hq => hF q hq) hF hD hS hL ?_ kk (av := As.toArray)
  subst hst
  obtain ⟨a1, a2, a3, a4⟩ := z_room (R := R) (maxL := maxL) (w2 := w2) hfr hlo
  have w_ml := hw _ (List.mem_of_getElem? (i := 0) rfl)
  have w_stc := hw _ (List.mem_of_getElem? (i := 1) rfl)
  have w_ini := hw _ (List.mem_of_getElem? (i := 2) rfl)
  have w_co := hw _ (List.mem_of_getElem? (i := 3) rfl)
  have hpv := z_pre (av := As) hN C hS hP hD
  exact va_runS (As := As) (rest := rest) C.1 (hc H.size) ⟨⟨a1, a2, a3, a4, (hG.pay C.1.2.2.2.2 w_co), List.mem_cons_self, C.1.2.2.2.2 _ w_co, C.1.2.2.2.2 _ w_ini, ⟨hpl.1, hpl.2.1⟩, z_lens hpl.2.2, C.1.2.2.2.2 _ w_ml⟩, C.1.2.2.2.2 _ w_stc⟩ hpv rfl hn hL.1 rfl (lv_room hW) hd ⟨C.2.2.2.2.1.1, C.2.2.2.2.1.2⟩
theorem z_callSi (hN : (∀ w ∈ N, zNest w = true) ∧ zGr G) (hG : zGood T) (C : ZC p R s m args meth c cc nL T own E cl N G A X kc ks s.heap) {y : MethodName} {bytes : ByteArray} {maxL n i d2 w2 : Nat} {ret : Option FieldType} {As st0 : List Value} {post : Int32 → zH → Prop} (hc : Ct l X E cl N T G d2 w2 y bytes maxL ret As h (zPi post)) (hw : ∀ w ∈ zwS own i y bytes maxL ret, w ∈ T) (hfr : d2 + 1 ≤ R.frames) (hlo : 8 + (maxL + 11) + w2 ≤ R.locals) (hpl : y.cls ≠ "java/lang/invoke/MethodHandle" ∧ y.cls ≠ "java/lang/invoke/VarHandle" ∧ (parseMethodDescriptor y.desc).map (fun d => d.parameters.length) = some n) (hn : As.length = n) (hst : st0 = As.reverse ++ rest) (hW : (rest.map fun v => v.category).sum ≤ 8) (hd : decode cc pc = .ok (.invokestatic i, 3)) (kk : ∀ (v : Int32) (h2 : zH), post v h2 → ZW p l e R s m args below meth c Q X E cl A s.heap nL kc ks h2 (pc + 3) lv (.int v :: rest)) : ZW p l e R s m args below meth c Q X E cl A s.heap nL kc ks h (pc) lv (st0) :=
  z_callS hN hG C hc hw hfr hlo hpl hn hst hW hd (fun r h2 hq => by obtain ⟨v, rfl, q⟩ := hq; exact kk v h2 q)
theorem z_callSl (hN : (∀ w ∈ N, zNest w = true) ∧ zGr G) (hG : zGood T) (C : ZC p R s m args meth c cc nL T own E cl N G A X kc ks s.heap) {y : MethodName} {bytes : ByteArray} {maxL n i d2 w2 : Nat} {ret : Option FieldType} {As st0 : List Value} {post : Int64 → zH → Prop} (hc : Ct l X E cl N T G d2 w2 y bytes maxL ret As h (zPl post)) (hw : ∀ w ∈ zwS own i y bytes maxL ret, w ∈ T) (hfr : d2 + 1 ≤ R.frames) (hlo : 8 + (maxL + 11) + w2 ≤ R.locals) (hpl : y.cls ≠ "java/lang/invoke/MethodHandle" ∧ y.cls ≠ "java/lang/invoke/VarHandle" ∧ (parseMethodDescriptor y.desc).map (fun d => d.parameters.length) = some n) (hn : As.length = n) (hst : st0 = As.reverse ++ rest) (hW : (rest.map fun v => v.category).sum ≤ 8) (hd : decode cc pc = .ok (.invokestatic i, 3)) (kk : ∀ (v : Int64) (h2 : zH), post v h2 → ZW p l e R s m args below meth c Q X E cl A s.heap nL kc ks h2 (pc + 3) lv (.long v :: rest)) : ZW p l e R s m args below meth c Q X E cl A s.heap nL kc ks h (pc) lv (st0) :=
  z_callS hN hG C hc hw hfr hlo hpl hn hst hW hd (fun r h2 hq => by obtain ⟨v, rfl, q⟩ := hq; exact kk v h2 q)
theorem z_callSv (hN : (∀ w ∈ N, zNest w = true) ∧ zGr G) (hG : zGood T) (C : ZC p R s m args meth c cc nL T own E cl N G A X kc ks s.heap) {y : MethodName} {bytes : ByteArray} {maxL n i d2 w2 : Nat} {ret : Option FieldType} {As st0 : List Value} {post : zH → Prop} (hc : Ct l X E cl N T G d2 w2 y bytes maxL ret As h (zPv post)) (hw : ∀ w ∈ zwS own i y bytes maxL ret, w ∈ T) (hfr : d2 + 1 ≤ R.frames) (hlo : 8 + (maxL + 11) + w2 ≤ R.locals) (hpl : y.cls ≠ "java/lang/invoke/MethodHandle" ∧ y.cls ≠ "java/lang/invoke/VarHandle" ∧ (parseMethodDescriptor y.desc).map (fun d => d.parameters.length) = some n) (hn : As.length = n) (hst : st0 = As.reverse ++ rest) (hW : (rest.map fun v => v.category).sum ≤ 8) (hd : decode cc pc = .ok (.invokestatic i, 3)) (kk : ∀ (h2 : zH), post h2 → ZW p l e R s m args below meth c Q X E cl A s.heap nL kc ks h2 (pc + 3) lv (rest)) : ZW p l e R s m args below meth c Q X E cl A s.heap nL kc ks h (pc) lv (st0) :=
  z_callS hN hG C hc hw hfr hlo hpl hn hst hW hd (fun r h2 hq => by obtain ⟨rfl, q⟩ := hq; exact kk h2 q)
theorem z_callVN (hN : (∀ w ∈ N, zNest w = true) ∧ zGr G) (hG : zGood T) (C : ZC p R s m args meth c cc nL T own E cl N G A X kc ks s.heap) {y : MethodName} {bytes : ByteArray} {maxL n i d2 w2 : Nat} {ret : Option FieldType} {host : String} {b ci nf : Nat} {F : u_T} {As st0 : List Value} {post : Option Value → zH → Prop} (hc : Ct l X E cl N T G d2 w2 y bytes maxL ret (.ref (E.2.2.1 b) :: As) h post) (hw : ∀ w ∈ zwVN y bytes maxL ret, w ∈ T) (hl : Cond.methodLinkNest own i y host ∈ N) (hb : b < X.1) (hX : X.2.1 b = (0, ci)) (hcl : cl[ci]? = some (y.cls, F, nf)) (hfr : d2 + 1 ≤ R.frames) (hlo : 8 + (maxL + 11) + w2 ≤ R.locals) (hpl : y.cls ≠ "java/lang/invoke/MethodHandle" ∧ y.cls ≠ "java/lang/invoke/VarHandle" ∧ (parseMethodDescriptor y.desc).map (fun d => d.parameters.length) = some n) (hn : As.length = n) (hst : st0 = As.reverse ++ .ref (E.2.2.1 b) :: rest) (hW : (rest.map fun v => v.category).sum ≤ 8) (hd : decode cc pc = .ok (.invokevirtual i, 3)) (kk : ∀ (r : Option Value) (h2 : zH), post r h2 → ZW p l e R s m args below meth c Q X E cl A s.heap nL kc ks h2 (pc + 3) lv (r.toList ++ rest)) : ZW p l e R s m args below meth c Q X E cl A s.heap nL kc ks h (pc) lv (st0) := by
  intro H locs ls hP hD hS hL
  have hF := z_in C hD hS
  refine z_back (post := post) (fun q _ hq => hF q hq) hF hD hS hL ?_ kk (av := (.ref (E.2.2.1 b) :: As).toArray)
  subst hst
  obtain ⟨a1, a2, a3, a4⟩ := z_room (R := R) (maxL := maxL) (w2 := w2) hfr hlo
  have w_im := hw _ (List.mem_of_getElem? (i := 0) rfl)
  have w_se := hw _ (List.mem_of_getElem? (i := 1) rfl)
  have w_ini := hw _ (List.mem_of_getElem? (i := 2) rfl)
  have w_co := hw _ (List.mem_of_getElem? (i := 3) rfl)
  have hpre := z_pre (av := (.ref (E.2.2.1 b) :: As)) hN C hS hP hD
  have hrc := va_recv C.2.1 hP (ci := ci) (q0 := b) hcl (by rw [zw_at hb, ze_obj hX])
  have hpv : PreV s H y.cls (E.2.2.1 b) (va_Pc (.ref (E.2.2.1 b) :: As) (zB X E cl N G h H.size)) As := ⟨hpre.1, hrc, hpre.2⟩
  exact va_runVN (C := y.cls) (As := As) (rest := rest) C.1 (hc H.size) ⟨⟨⟨a1, a2, a3, a4, (hG.pay C.1.2.2.2.2 w_co), List.mem_cons_self⟩, C.1.2.2.2.2 _ w_co, C.1.2.2.2.2 _ w_ini, ⟨hpl.1, hpl.2.1⟩, z_lens hpl.2.2, va_Nw.use rfl (C.2.2.1 _ hl)⟩, C.1.2.2.2.2 _ w_im, C.1.2.2.2.2 _ w_se⟩ hpv rfl hn hL.1 rfl (lv_room hW) hd ⟨C.2.2.2.2.1.1, C.2.2.2.2.1.2⟩
theorem z_callVNi (hN : (∀ w ∈ N, zNest w = true) ∧ zGr G) (hG : zGood T) (C : ZC p R s m args meth c cc nL T own E cl N G A X kc ks s.heap) {y : MethodName} {bytes : ByteArray} {maxL n i d2 w2 : Nat} {ret : Option FieldType} {host : String} {b ci nf : Nat} {F : u_T} {As st0 : List Value} {post : Int32 → zH → Prop} (hc : Ct l X E cl N T G d2 w2 y bytes maxL ret (.ref (E.2.2.1 b) :: As) h (zPi post)) (hw : ∀ w ∈ zwVN y bytes maxL ret, w ∈ T) (hl : Cond.methodLinkNest own i y host ∈ N) (hb : b < X.1) (hX : X.2.1 b = (0, ci)) (hcl : cl[ci]? = some (y.cls, F, nf)) (hfr : d2 + 1 ≤ R.frames) (hlo : 8 + (maxL + 11) + w2 ≤ R.locals) (hpl : y.cls ≠ "java/lang/invoke/MethodHandle" ∧ y.cls ≠ "java/lang/invoke/VarHandle" ∧ (parseMethodDescriptor y.desc).map (fun d => d.parameters.length) = some n) (hn : As.length = n) (hst : st0 = As.reverse ++ .ref (E.2.2.1 b) :: rest) (hW : (rest.map fun v => v.category).sum ≤ 8) (hd : decode cc pc = .ok (.invokevirtual i, 3)) (kk : ∀ (v : Int32) (h2 : zH), post v h2 → ZW p l e R s m args below meth c Q X E cl A s.heap nL kc ks h2 (pc + 3) lv (.int v :: rest)) : ZW p l e R s m args below meth c Q X E cl A s.heap nL kc ks h (pc) lv (st0) :=
  z_callVN hN hG C hc hw hl hb hX hcl hfr hlo hpl hn hst hW hd (fun r h2 hq => by obtain ⟨v, rfl, q⟩ := hq; exact kk v h2 q)
theorem z_callVNl (hN : (∀ w ∈ N, zNest w = true) ∧ zGr G) (hG : zGood T) (C : ZC p R s m args meth c cc nL T own E cl N G A X kc ks s.heap) {y : MethodName} {bytes : ByteArray} {maxL n i d2 w2 : Nat} {ret : Option FieldType} {host : String} {b ci nf : Nat} {F : u_T} {As st0 : List Value} {post : Int64 → zH → Prop} (hc : Ct l X E cl N T G d2 w2 y bytes maxL ret (.ref (E.2.2.1 b) :: As) h (zPl post)) (hw : ∀ w ∈ zwVN y bytes maxL ret, w ∈ T) (hl : Cond.methodLinkNest own i y host ∈ N) (hb : b < X.1) (hX : X.2.1 b = (0, ci)) (hcl : cl[ci]? = some (y.cls, F, nf)) (hfr : d2 + 1 ≤ R.frames) (hlo : 8 + (maxL + 11) + w2 ≤ R.locals) (hpl : y.cls ≠ "java/lang/invoke/MethodHandle" ∧ y.cls ≠ "java/lang/invoke/VarHandle" ∧ (parseMethodDescriptor y.desc).map (fun d => d.parameters.length) = some n) (hn : As.length = n) (hst : st0 = As.reverse ++ .ref (E.2.2.1 b) :: rest) (hW : (rest.map fun v => v.category).sum ≤ 8) (hd : decode cc pc = .ok (.invokevirtual i, 3)) (kk : ∀ (v : Int64) (h2 : zH), post v h2 → ZW p l e R s m args below meth c Q X E cl A s.heap nL kc ks h2 (pc + 3) lv (.long v :: rest)) : ZW p l e R s m args below meth c Q X E cl A s.heap nL kc ks h (pc) lv (st0) :=
  z_callVN hN hG C hc hw hl hb hX hcl hfr hlo hpl hn hst hW hd (fun r h2 hq => by obtain ⟨v, rfl, q⟩ := hq; exact kk v h2 q)
theorem z_callVNv (hN : (∀ w ∈ N, zNest w = true) ∧ zGr G) (hG : zGood T) (C : ZC p R s m args meth c cc nL T own E cl N G A X kc ks s.heap) {y : MethodName} {bytes : ByteArray} {maxL n i d2 w2 : Nat} {ret : Option FieldType} {host : String} {b ci nf : Nat} {F : u_T} {As st0 : List Value} {post : zH → Prop} (hc : Ct l X E cl N T G d2 w2 y bytes maxL ret (.ref (E.2.2.1 b) :: As) h (zPv post)) (hw : ∀ w ∈ zwVN y bytes maxL ret, w ∈ T) (hl : Cond.methodLinkNest own i y host ∈ N) (hb : b < X.1) (hX : X.2.1 b = (0, ci)) (hcl : cl[ci]? = some (y.cls, F, nf)) (hfr : d2 + 1 ≤ R.frames) (hlo : 8 + (maxL + 11) + w2 ≤ R.locals) (hpl : y.cls ≠ "java/lang/invoke/MethodHandle" ∧ y.cls ≠ "java/lang/invoke/VarHandle" ∧ (parseMethodDescriptor y.desc).map (fun d => d.parameters.length) = some n) (hn : As.length = n) (hst : st0 = As.reverse ++ .ref (E.2.2.1 b) :: rest) (hW : (rest.map fun v => v.category).sum ≤ 8) (hd : decode cc pc = .ok (.invokevirtual i, 3)) (kk : ∀ (h2 : zH), post h2 → ZW p l e R s m args below meth c Q X E cl A s.heap nL kc ks h2 (pc + 3) lv (rest)) : ZW p l e R s m args below meth c Q X E cl A s.heap nL kc ks h (pc) lv (st0) :=
  z_callVN hN hG C hc hw hl hb hX hcl hfr hlo hpl hn hst hW hd (fun r h2 hq => by obtain ⟨rfl, q⟩ := hq; exact kk h2 q)
theorem z_callSN (hN : (∀ w ∈ N, zNest w = true) ∧ zGr G) (hG : zGood T) (C : ZC p R s m args meth c cc nL T own E cl N G A X kc ks s.heap) {y : MethodName} {bytes : ByteArray} {maxL n i d2 w2 : Nat} {ret : Option FieldType} {host : String} {As st0 : List Value} {post : Option Value → zH → Prop} (hc : Ct l X E cl N T G d2 w2 y bytes maxL ret As h post) (hw : ∀ w ∈ zwSN y bytes maxL ret, w ∈ T) (hl : Cond.methodLinkNest own i y host ∈ N) (hfr : d2 + 1 ≤ R.frames) (hlo : 8 + (maxL + 11) + w2 ≤ R.locals) (hpl : y.cls ≠ "java/lang/invoke/MethodHandle" ∧ y.cls ≠ "java/lang/invoke/VarHandle" ∧ (parseMethodDescriptor y.desc).map (fun d => d.parameters.length) = some n) (hn : As.length = n) (hst : st0 = As.reverse ++ rest) (hW : (rest.map fun v => v.category).sum ≤ 8) (hd : decode cc pc = .ok (.invokestatic i, 3)) (kk : ∀ (r : Option Value) (h2 : zH), post r h2 → ZW p l e R s m args below meth c Q X E cl A s.heap nL kc ks h2 (pc + 3) lv (r.toList ++ rest)) : ZW p l e R s m args below meth c Q X E cl A s.heap nL kc ks h (pc) lv (st0) := by
  intro H locs ls hP hD hS hL
  have hF := z_in C hD hS
  refine z_back (post := post) (fun q _ hq => hF q hq) hF hD hS hL ?_ kk (av := As.toArray)
  subst hst
  obtain ⟨a1, a2, a3, a4⟩ := z_room (R := R) (maxL := maxL) (w2 := w2) hfr hlo
  have w_stc := hw _ (List.mem_of_getElem? (i := 0) rfl)
  have w_ini := hw _ (List.mem_of_getElem? (i := 1) rfl)
  have w_co := hw _ (List.mem_of_getElem? (i := 2) rfl)
  have hpv := z_pre (av := As) hN C hS hP hD
  exact va_runSN (As := As) (rest := rest) C.1 (hc H.size) ⟨⟨⟨a1, a2, a3, a4, (hG.pay C.1.2.2.2.2 w_co), List.mem_cons_self⟩, C.1.2.2.2.2 _ w_co, C.1.2.2.2.2 _ w_ini, ⟨hpl.1, hpl.2.1⟩, z_lens hpl.2.2, va_Nw.use rfl (C.2.2.1 _ hl)⟩, C.1.2.2.2.2 _ w_stc, trivial⟩ hpv rfl hn hL.1 rfl (lv_room hW) hd ⟨C.2.2.2.2.1.1, C.2.2.2.2.1.2⟩
theorem z_callSNi (hN : (∀ w ∈ N, zNest w = true) ∧ zGr G) (hG : zGood T) (C : ZC p R s m args meth c cc nL T own E cl N G A X kc ks s.heap) {y : MethodName} {bytes : ByteArray} {maxL n i d2 w2 : Nat} {ret : Option FieldType} {host : String} {As st0 : List Value} {post : Int32 → zH → Prop} (hc : Ct l X E cl N T G d2 w2 y bytes maxL ret As h (zPi post)) (hw : ∀ w ∈ zwSN y bytes maxL ret, w ∈ T) (hl : Cond.methodLinkNest own i y host ∈ N) (hfr : d2 + 1 ≤ R.frames) (hlo : 8 + (maxL + 11) + w2 ≤ R.locals) (hpl : y.cls ≠ "java/lang/invoke/MethodHandle" ∧ y.cls ≠ "java/lang/invoke/VarHandle" ∧ (parseMethodDescriptor y.desc).map (fun d => d.parameters.length) = some n) (hn : As.length = n) (hst : st0 = As.reverse ++ rest) (hW : (rest.map fun v => v.category).sum ≤ 8) (hd : decode cc pc = .ok (.invokestatic i, 3)) (kk : ∀ (v : Int32) (h2 : zH), post v h2 → ZW p l e R s m args below meth c Q X E cl A s.heap nL kc ks h2 (pc + 3) lv (.int v :: rest)) : ZW p l e R s m args below meth c Q X E cl A s.heap nL kc ks h (pc) lv (st0) :=
  z_callSN hN hG C hc hw hl hfr hlo hpl hn hst hW hd (fun r h2 hq => by obtain ⟨v, rfl, q⟩ := hq; exact kk v h2 q)
theorem z_callSNl (hN : (∀ w ∈ N, zNest w = true) ∧ zGr G) (hG : zGood T) (C : ZC p R s m args meth c cc nL T own E cl N G A X kc ks s.heap) {y : MethodName} {bytes : ByteArray} {maxL n i d2 w2 : Nat} {ret : Option FieldType} {host : String} {As st0 : List Value} {post : Int64 → zH → Prop} (hc : Ct l X E cl N T G d2 w2 y bytes maxL ret As h (zPl post)) (hw : ∀ w ∈ zwSN y bytes maxL ret, w ∈ T) (hl : Cond.methodLinkNest own i y host ∈ N) (hfr : d2 + 1 ≤ R.frames) (hlo : 8 + (maxL + 11) + w2 ≤ R.locals) (hpl : y.cls ≠ "java/lang/invoke/MethodHandle" ∧ y.cls ≠ "java/lang/invoke/VarHandle" ∧ (parseMethodDescriptor y.desc).map (fun d => d.parameters.length) = some n) (hn : As.length = n) (hst : st0 = As.reverse ++ rest) (hW : (rest.map fun v => v.category).sum ≤ 8) (hd : decode cc pc = .ok (.invokestatic i, 3)) (kk : ∀ (v : Int64) (h2 : zH), post v h2 → ZW p l e R s m args below meth c Q X E cl A s.heap nL kc ks h2 (pc + 3) lv (.long v :: rest)) : ZW p l e R s m args below meth c Q X E cl A s.heap nL kc ks h (pc) lv (st0) :=
  z_callSN hN hG C hc hw hl hfr hlo hpl hn hst hW hd (fun r h2 hq => by obtain ⟨v, rfl, q⟩ := hq; exact kk v h2 q)
theorem z_callSNv (hN : (∀ w ∈ N, zNest w = true) ∧ zGr G) (hG : zGood T) (C : ZC p R s m args meth c cc nL T own E cl N G A X kc ks s.heap) {y : MethodName} {bytes : ByteArray} {maxL n i d2 w2 : Nat} {ret : Option FieldType} {host : String} {As st0 : List Value} {post : zH → Prop} (hc : Ct l X E cl N T G d2 w2 y bytes maxL ret As h (zPv post)) (hw : ∀ w ∈ zwSN y bytes maxL ret, w ∈ T) (hl : Cond.methodLinkNest own i y host ∈ N) (hfr : d2 + 1 ≤ R.frames) (hlo : 8 + (maxL + 11) + w2 ≤ R.locals) (hpl : y.cls ≠ "java/lang/invoke/MethodHandle" ∧ y.cls ≠ "java/lang/invoke/VarHandle" ∧ (parseMethodDescriptor y.desc).map (fun d => d.parameters.length) = some n) (hn : As.length = n) (hst : st0 = As.reverse ++ rest) (hW : (rest.map fun v => v.category).sum ≤ 8) (hd : decode cc pc = .ok (.invokestatic i, 3)) (kk : ∀ (h2 : zH), post h2 → ZW p l e R s m args below meth c Q X E cl A s.heap nL kc ks h2 (pc + 3) lv (rest)) : ZW p l e R s m args below meth c Q X E cl A s.heap nL kc ks h (pc) lv (st0) :=
  z_callSN hN hG C hc hw hl hfr hlo hpl hn hst hW hd (fun r h2 hq => by obtain ⟨rfl, q⟩ := hq; exact kk h2 q)
end ZK
