/-! THE REFERENCE'S READING -/
def RVm (h : zH) (vr : Vr) : Prop := ∀ j, j < vr.1 → h.1 40 j = Int32.ofInt (vr.2.1 j) ∧ h.1 41 j = Int32.ofInt (vr.2.2 j)
theorem keepM_C {c i : Nat} (h : keepM c i) : keepC c i := Or.inl h
theorem keepM_T {c i : Nat} (h : keepM c i) : keepT c i := by unfold keepM at h; unfold keepT; omega
theorem FK.cm {h h' : zH} (f : FK keepC h h') : FK keepM h h' := f.up (fun _ _ => keepM_C)
theorem FK.tm {h h' : zH} (f : FK keepT h h') : FK keepM h h' := f.up (fun _ _ => keepM_T)
theorem RSm.m {h h' : zH} {sg : Nat → Nat} {n nv : Nat} (f : FK keepM h h') (a : RSm h sg n nv) : RSm h' sg n nv := by
  obtain ⟨a1, a2, a3, a4, a5⟩ := a
  exact ⟨(f 39 7 (by unfold keepM; omega)).1.trans a1, a2, fun i hi => ⟨(f 43 i (by unfold keepM; omega)).1.trans (a3 i hi).1, (a3 i hi).2⟩, (f 39 1 (by unfold keepM; omega)).1.trans a4, a5⟩
theorem RVm.m {h h' : zH} {vr : Vr} (f : FK keepM h h') (a : RVm h vr) : RVm h' vr := fun j hj => ⟨(f 40 j (by unfold keepM; omega)).1.trans (a j hj).1, (f 41 j (by unfold keepM; omega)).1.trans (a j hj).2⟩
theorem RM.t {h h' : zH} {σ : St} (f : FK keepT h h') (a : RM h σ) : RM h' σ := by
  have t44 : ∀ c, 44 ≤ c → c ≤ 57 → h'.1 c = h.1 c ∧ h'.2.1 c = h.2.1 c := fun c h1 h2 => ⟨funext fun i => (f c i (by unfold keepT; omega)).1, funext fun i => (f c i (by unfold keepT; omega)).2.1⟩
  exact a.same (fun i hi => (f 39 i (by unfold keepT; omega)).1) t44
def BadW (h h' : zH) (e : Nat) : Prop := FK keepM h h' ∧ h'.1 39 24 = nI e ∧ (0 < e ∧ e < 1000000)
theorem BadM.w {h h' : zH} {e : Nat} (b : BadM h h' e) : BadW h h' e := ⟨b.1.cm, b.2.1, b.2.2.1⟩
theorem BadW.pre {h h1 h' : zH} {e : Nat} (a : FK keepM h h1) (b : BadW h1 h' e) : BadW h h' e := ⟨a.tr b.1, b.2⟩
theorem BadW.ne {h h' : zH} {e : Nat} (b : BadW h h' e) : ¬ h'.1 39 24 = 0 ∧ ¬ h'.1 39 24 ≤ 0 := by
  rw [b.2.1]
  have := b.2.2
  refine ⟨fun q => ?_, fun q => ?_⟩
  · have := (nI_lit (d := 0) (by omega) (by decide)).mp q; omega
  · have := (nI_le_lit (d := 0) (by omega) (by decide)).mp q; omega
theorem stepM_tk {vr : Vr} {m : Nat} {t : Tk} {σ : St} : stepM vr m (tkM vr.1 t, t.2) σ = stepM vr m t σ := by
  unfold tkM
  by_cases c : t.1 = 3 ∧ vr.1 ≤ t.2.2.1
  · rw [if_pos c]
    have e3 := c.1
    unfold stepM
    by_cases m0 : m = 0
    · rw [if_pos m0, if_pos m0]
      unfold stepB
      simp only [e3]
      rw [if_neg (show ¬ t.2.2.1 < vr.1 by omega)]
      rfl
    · rw [if_neg m0, if_neg m0]
      by_cases m1 : m = 1
      · rw [if_pos m1, if_pos m1, e3]; rfl
      · rw [if_neg m1, if_neg m1]
        unfold stepO
        simp only [e3]
        have b0 : isBin 0 = false := rfl
        have b3 : isBin 3 = false := rfl
        rw [b0, b3]
        simp only [Bool.false_eq_true, if_false, Nat.reduceEqDiff]
        unfold endT
        simp only [e3, Nat.reduceEqDiff, if_false]
  · rw [if_neg c]
theorem stepO_tk {vr : Vr} {t : Tk} {σ : St} : stepO (tkM vr.1 t, t.2) σ = stepO t σ := stepM_tk (vr := vr) (m := 2) (t := t) (σ := σ)
theorem stepO_stl {t : Tk} {σ σ1 : St} (h : stl 5 σ.1 σ.2.1 σ.2.2 = .ok σ1) : stepO t σ = stepO t σ1 := by
  unfold stepO
  by_cases c : isBin t.1 = true
  · rw [if_pos c, if_pos c]
    have bs := isBin_stg c
    rw [stl_stl_ok (r := if stg t.1 = 3 then 4 else stg t.1) (r' := 5) (by split <;> omega) _ _ _ _ h]
  · rw [if_neg c, if_neg c]
    by_cases c7 : t.1 = 7
    · rw [if_pos c7, if_pos c7, stl_stl_ok (r := 1) (r' := 5) (by decide) _ _ _ _ h]
    · rw [if_neg c7, if_neg c7]
      exact (endT_stl (by decide) h).symm
theorem stepO_ster {t : Tk} {σ : St} {e : Nat} (h : stl 5 σ.1 σ.2.1 σ.2.2 = .error e) : stepO t σ = .error e := by
  unfold stepO
  by_cases c : isBin t.1 = true
  · rw [if_pos c]
    have bs := isBin_stg c
    rw [stl_stl_er (r := if stg t.1 = 3 then 4 else stg t.1) (r' := 5) (by split <;> omega) _ _ _ _ h]
  · rw [if_neg c]
    by_cases c7 : t.1 = 7
    · rw [if_pos c7, stl_stl_er (r := 1) (r' := 5) (by decide) _ _ _ _ h]
    · rw [if_neg c7]
      exact endT_ster (by decide) h
theorem runT_stl {sg : Nat → Nat} {n i : Nat} {vr : Vr} {σ σ1 : St} (h : stl 5 σ.1 σ.2.1 σ.2.2 = .ok σ1) : ∀ fu, runT sg n vr fu 2 i σ = runT sg n vr fu 2 i σ1
  | 0 => rfl
  | fu + 1 => by
    have : stepM vr 2 (tok sg n i) σ = stepM vr 2 (tok sg n i) σ1 := stepO_stl h
    rw [runT, runT, this]
theorem runT_ster {sg : Nat → Nat} {n i fu : Nat} {vr : Vr} {σ : St} {e : Nat} (hf : 0 < fu) (h : stl 5 σ.1 σ.2.1 σ.2.2 = .error e) : runT sg n vr fu 2 i σ = .error e := by
  cases fu with
  | zero => omega
  | succ fu =>
    have : stepM vr 2 (tok sg n i) σ = .error e := stepO_ster h
    rw [runT, this]
theorem endT3 {t : Tk} {σ σ' : St} (h : endT t σ = .ok (3, σ')) : t.1 = 1 := by
  unfold endT at h
  cases e : stl 0 σ.1 σ.2.1 σ.2.2 with
  | error x => rw [e] at h; cases h
  | ok s =>
    rw [e] at h
    obtain ⟨ws, q⟩ := s
    cases ws with
    | nil =>
      simp only at h
      by_cases c : t.1 = 1
      · exact c
      · rw [if_neg c] at h; cases h
    | cons f l =>
      obtain ⟨op, pl, cn⟩ := f
      simp only at h
      by_cases hfn : op = 25 ∨ ((op = 23 ∨ op = 24) ∧ cn = 1)
      · rw [if_pos hfn] at h
        cases e2 : comb op pl q.1 q.2 with
        | error x => rw [e2] at h; cases h
        | ok r =>
          rw [e2] at h
          simp only at h
          by_cases c : t.1 = 5
          · rw [if_pos c] at h; cases h
          · rw [if_neg c] at h; cases h
      · rw [if_neg hfn] at h
        by_cases h4 : op = 4
        · rw [if_pos h4] at h
          by_cases c : t.1 = 5
          · rw [if_pos c] at h; cases h
          · rw [if_neg c] at h; cases h
        · rw [if_neg h4] at h
          by_cases h7 : op = 7
          · rw [if_pos h7] at h
            by_cases c : t.1 = 8
            · rw [if_pos c] at h; cases h
            · rw [if_neg c] at h; cases h
          · rw [if_neg h7] at h
            by_cases c : t.1 = 6
            · rw [if_pos c] at h; cases h
            · rw [if_neg c] at h; cases h
theorem stepO3 {t : Tk} {σ σ' : St} (h : stepO t σ = .ok (3, σ')) : t.1 = 1 := by
  unfold stepO at h
  by_cases c : isBin t.1 = true
  · rw [if_pos c] at h
    cases e : stl (if stg t.1 = 3 then 4 else stg t.1) σ.1 σ.2.1 σ.2.2 with
    | error x => rw [e] at h; cases h
    | ok s =>
      rw [e] at h
      simp only at h
      by_cases c3 : stg t.1 = 3 ∧ topS s.1 = 3
      · rw [if_pos c3] at h; exact endT3 h
      · rw [if_neg c3] at h; cases h
  · rw [if_neg c] at h
    by_cases c7 : t.1 = 7
    · rw [if_pos c7] at h
      cases e : stl 1 σ.1 σ.2.1 σ.2.2 with
      | error x => rw [e] at h; cases h
      | ok s =>
        rw [e] at h
        simp only at h
        unfold nestS at h
        by_cases c9 : 32 ≤ nst s.1
        · rw [if_pos c9] at h; cases h
        · rw [if_neg c9] at h; cases h
    · rw [if_neg c7] at h; exact endT3 h
/-- a leaf -/
theorem leaf_good {h h1 : zH} {σ : St} {op pl num : Nat} {lo hi : Int} (a : RM h σ) (hf : h.1 39 24 = 0) (ho : (op = 2 ∧ h.2.1 39 11 = jL lo ∧ num = 0) ∨ (op = 3 ∧ h.2.1 39 11 = jL (num : Int))) (hl : σ.2.2.length < 100) (f : FK keepC h h1) (e39 : ∀ i, i = 24 ∨ i = 28 ∨ i = 30 ∨ i = 31 → h1.1 39 i = h.1 39 i) (e54 : ∀ c, 54 ≤ c → h1.1 c = h.1 c) (eo : ∀ c i, 44 ≤ c → c ≤ 53 → i < σ.2.2.length → h1.1 c i = h.1 c i ∧ h1.2.1 c i = h.2.1 c i) (e22 : h1.1 39 22 = nI (σ.2.2.length + 1)) (pq : PtQ h1 σ.2.2.length (nI (rop op)) (nI pl) 0 (jL lo) (jL hi)) :
    GoodM h (zi (zi h1 57 σ.2.1.length (nI σ.2.2.length)) 39 30 (nI (σ.2.1.length + 1))) (σ.1, σ.2.2.length :: σ.2.1, (op, pl, 0, lo, hi, 0, 0, num, 1) :: σ.2.2) := by
  obtain ⟨ws, t, ps⟩ := σ
  simp only at *
  have hnt : ∀ i, i < t.length → ¬ i = t.length := fun i hi => by omega
  refine ⟨(f.zi nkC).zi nkC, a.add ?_ ?_ ?_ ?_ ?_ ?_ ?_ ?_ ?_, ?_⟩
  · simp [zi1]; exact e39 28 (by simp)
  · simp [zi1]; exact e39 31 (by simp)
  · simp [zi1]
  · simp [zi1]; exact e22
  · intro c hc
    rw [zi_ne (by omega), zi_ne (by omega)]
    exact e54 c (by omega)
  · intro i hi
    simp [zi1, hnt i hi]; rw [e54 57 (by decide)]
  · simp [zi1]
  · intro c i h1 h2 hi
    refine ⟨?_, ?_⟩
    · rw [zi1, if_neg (by omega), zi1, if_neg (by omega)]
      exact (eo c i h1 h2 hi).1
    · exact (eo c i h1 h2 hi).2
  · obtain ⟨p1, p2, p3, p4, p5, p6, p7, p8, p9, p10⟩ := pq
    have k11 : h1.2.1 39 11 = h.2.1 39 11 := (f 39 11 (by unfold keepC; omega)).2.1
    have ho2 : op = 2 ∨ op = 3 := by omega
    refine ⟨?_, ?_, ?_, ?_, ?_, ?_, ?_, ?_, ?_, ?_, ?_⟩
    · simp [zi1, p1, pOp]
    · simp [zi1, p2, pPl]
    · simp [zi1, p3, pKd]; rfl
    · simp [zi2, p4, pLo]
    · simp [zi2, p5, pHi]
    · unfold mA; rw [if_pos (by unfold pOp; simp only; omega)]; simp [zi1, p6]
    · unfold mB; rw [if_pos (by unfold pOp; simp only; omega)]; simp [zi1, p7]
    · unfold mC; rw [if_neg (by unfold pOp; simp only; omega)]; simp [zi1, p8]
    · simp [zi1, p9, pDp]; rfl
    · intro q
      unfold pOp at q; simp only at q
      have : h.2.1 39 11 = jL lo := by
        rcases ho with z | z
        · exact z.2.1
        · omega
      simp only [zi2]; rw [p10, k11, this]; rfl
    · intro q
      unfold pOp at q; simp only at q
      have : h.2.1 39 11 = jL (num : Int) := by
        rcases ho with z | z
        · omega
        · exact z.2
      simp only [zi2]; rw [p10, k11, this]; rfl
  · simp [zi1]; rw [e39 24 (by simp)]; exact hf
theorem sp_leafM {h : zH} {σ : St} {op pl num : Nat} {lo hi : Int} {post : zH → Prop} (a : RM h σ) (hI : Iw 0 σ) (hf : h.1 39 24 = 0) (ho : (op = 2 ∧ h.2.1 39 11 = jL lo ∧ num = 0) ∨ (op = 3 ∧ h.2.1 39 11 = jL (num : Int))) (hpl : pl < 100000)
    (hbad : ∀ e h', leafS σ (op, pl, 0, lo, hi, 0, 0, num, 1) = .error e → BadM h h' e → post h')
    (hgood : ∀ σ' h', leafS σ (op, pl, 0, lo, hi, 0, 0, num, 1) = .ok (2, σ') → GoodM h h' σ' → post h') : wp_M_part5 (nI (rop op)) (nI pl) 0 (jL lo) (jL hi) h (fun r9 h10 => wp_M_push r9 h10 post) := by
  have hl := hI.1.len
  have z5 := hI.2.2.2.2.1
  have z6 := hI.2.2.2.2.2
  have e30 := a.2.2.2.1
  refine sp_M_part5 a hf z6 hpl hl (fun c => ?_) (fun c h1 f e39 e54 eo e22 pq => ?_)
  · refine sp_M_push (x := 0) (n := σ.2.1.length) (by simp [zi1]; exact e30) (by omega) ?_
    have b := BadM.mk FK.rf a hl (e := 6 + 8 * pl) (by omega)
    refine hbad (6 + 8 * pl) _ (by unfold leafS addp; rw [if_neg (by omega)]; rfl) ⟨(b.1.zi nkC).zi nkC, by simp [zi1], b.2.2.1, σ.1.length, by simp [zi1]; exact a.1, by omega⟩
  · refine sp_M_push (n := σ.2.1.length) (by rw [e39 30 (by simp)]; exact e30) (by omega) ?_
    exact hgood _ _ (by unfold leafS addp; rw [if_pos c]) (leaf_good a hf ho c f e39 e54 eo e22 pq)
