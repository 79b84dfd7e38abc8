/-- the machine's state in mode m -/
def Iw (m : Nat) (σ : St) : Prop := Fok σ.1 ∧ Bas σ.2.2 ∧ (∀ x ∈ σ.2.1, x < σ.2.2.length) ∧ σ.2.1.length = nd σ.1 + (if m = 2 then 1 else 0) ∧ σ.2.1.length ≤ σ.2.2.length ∧ σ.2.2.length ≤ 100
theorem Iw.szs {m : Nat} {σ : St} (h : Iw m σ) : Szs σ := ⟨h.1.len, h.2.2.2.2.1, h.2.2.2.2.2, h.1.ops⟩
theorem Iw.iv {σ : St} (h : Iw 2 σ) : Iv σ := ⟨h.szs, h.2.1, h.2.2.1, by have := h.2.2.2.1; rw [if_pos rfl] at this; exact this, fun f hf => (h.1.1 f hf).2.2⟩
theorem Iv.iw {σ : St} (h : Iv σ) (hF : Fok σ.1) : Iw 2 σ := ⟨hF, h.2.1, h.2.2.1, by rw [if_pos rfl]; exact h.2.2.2.1, h.1.2.1, h.1.2.2.1⟩
def VrOk (vr : Vr) : Prop := vr.1 ≤ 20 ∧ ∀ i, i < vr.1 → wi (vr.2.1 i) ∧ wi (vr.2.2 i) ∧ vr.2.1 i ≤ vr.2.2 i
def TkOk (t : Tk) : Prop := t.1 < 26 ∧ t.2.1 < 100000 ∧ t.2.2.1 ≤ 2000000000
theorem leaf_inv {σ : St} {p : Pt} {q : Nat × St} (hI : Iw 0 σ) (h1 : pKd p = 0) (h2 : pDp p = 1) (h3 : wi (pLo p)) (h4 : wi (pHi p)) (h5 : pLo p ≤ pHi p) (h : leafS σ p = .ok q) : q.1 = 2 ∧ Iw 2 q.2 := by
  unfold leafS at h
  cases e : addp σ.2.1 σ.2.2 p with
  | error x => rw [e] at h; cases h
  | ok r =>
    rw [e] at h
    simp only [Except.ok.injEq] at h
    obtain ⟨e1, e2⟩ := addp_ok e
    subst h e2
    obtain ⟨i1, i2, i3, i4, i5, i6⟩ := hI
    rw [if_neg (by decide)] at i4
    refine ⟨rfl, i1, i2.cons (by omega) (by omega) h3 h4 h5, ?_, ?_, ?_, ?_⟩
    · intro x hx
      simp only [List.length_cons]
      rcases List.mem_cons.mp hx with rfl | hx
      · omega
      · have := i3 x hx; omega
    · rw [if_pos rfl]; simp only [List.length_cons]; omega
    · simp only [List.length_cons]; omega
    · simp only [List.length_cons]; omega
theorem nest_inv {σ : St} {op m pl : Nat} {q : Nat × St} (hF : Fok σ.1) (hB : Bas σ.2.2) (hp : ∀ x ∈ σ.2.1, x < σ.2.2.length) (hn : σ.2.1.length = nd1 (op, pl, 0) + nd σ.1) (hl : σ.2.1.length ≤ σ.2.2.length) (hh : σ.2.2.length ≤ 100) (ho : op = 4 ∨ op = 7 ∨ (9 ≤ op ∧ op ≤ 27)) (hs : nsts op = true) (hm : m < 2) (hpl : pl < 100000) (hx : op = 7 ∨ op = 27 → topS σ.1 < 1) (h : nestS op m pl σ = .ok q) : q.1 < 3 ∧ Iw q.1 q.2 := by
  unfold nestS at h
  by_cases c : 32 ≤ nst σ.1
  · rw [if_pos c] at h; cases h
  · rw [if_neg c] at h
    simp only [Except.ok.injEq] at h
    subst h
    refine ⟨by simp only; omega, (hF.nest ho hs (by omega) (by omega) hpl hx).1, hB, hp, ?_, hl, hh⟩
    rw [if_neg (by simp only; omega)]
    exact hn
theorem stepB_inv {vr : Vr} {t : Tk} {σ : St} {q : Nat × St} (hv : VrOk vr) (ht : TkOk t) (hI : Iw 0 σ) (h : stepB vr t σ = .ok q) : q.1 < 3 ∧ Iw q.1 q.2 := by
  obtain ⟨i1, i2, i3, i4, i5, i6⟩ := id hI
  rw [if_neg (by decide)] at i4
  unfold stepB at h
  obtain ⟨t1, t2, t3⟩ := ht
  by_cases c2 : t.1 = 2
  · rw [if_pos c2] at h
    have := leaf_inv hI rfl rfl (by unfold wi pLo; simp only; omega) (by unfold wi pHi; simp only; omega) (Int.le_refl _) h
    rw [this.1]; exact ⟨by decide, this.2⟩
  rw [if_neg c2] at h
  by_cases c3 : t.1 = 3
  · rw [if_pos c3] at h
    by_cases cv : t.2.2.1 < vr.1
    · rw [if_pos cv] at h
      obtain ⟨v1, v2, v3⟩ := hv.2 _ cv
      have := leaf_inv (p := (3, t.2.1, 0, vr.2.1 t.2.2.1, vr.2.2 t.2.2.1, 0, 0, t.2.2.1, 1)) hI rfl rfl v1 v2 v3 h
      rw [this.1]; exact ⟨by decide, this.2⟩
    · rw [if_neg cv] at h; cases h
  rw [if_neg c3] at h
  by_cases c10 : t.1 = 10
  · rw [if_pos c10] at h
    exact nest_inv i1 i2 i3 (by rw [i4]; show nd σ.1 + 0 = 0 + nd σ.1; omega) i5 i6 (by omega) rfl (by decide) t2 (by omega) h
  rw [if_neg c10] at h
  by_cases c20 : t.1 = 20 ∨ t.1 = 4
  · rw [if_pos c20] at h
    refine nest_inv i1 i2 i3 ?_ i5 i6 (by omega) (by rcases c20 with e | e <;> rw [e] <;> rfl) (by decide) t2 (by omega) h
    rw [i4]
    have : nd1 (t.1, t.2.1, 0) = 0 := by rcases c20 with e | e <;> rw [e] <;> rfl
    omega
  rw [if_neg c20] at h
  by_cases c23 : t.1 = 23 ∨ t.1 = 24 ∨ t.1 = 25
  · rw [if_pos c23] at h
    refine nest_inv i1 i2 i3 ?_ i5 i6 (by omega) (by rcases c23 with e | e | e <;> rw [e] <;> rfl) (by decide) t2 (by omega) h
    rw [i4]
    have : nd1 (t.1, t.2.1, 0) = 0 := by rcases c23 with e | e | e <;> rw [e] <;> rfl
    omega
  rw [if_neg c23] at h
  cases h
theorem endT_inv {t : Tk} {σ : St} {q : Nat × St} (hI : Iw 2 σ) (h : endT t σ = .ok q) : (q.1 = 3 ∧ q.2.1 = [] ∧ Iw 2 q.2) ∨ (q.1 < 3 ∧ Iw q.1 q.2) := by
  unfold endT at h
  cases e : stl 0 σ.1 σ.2.1 σ.2.2 with
  | error x => rw [e] at h; cases h
  | ok s =>
    rw [e] at h
    obtain ⟨I1, I2⟩ := stl_Iv (by omega) _ _ _ s (show Iv (σ.1, σ.2.1, σ.2.2) from hI.iv) e
    have F1 : Fok s.1 := hI.1.settled e
    have W1 := I1.iw F1
    obtain ⟨ws, pile, ps⟩ := s
    cases ws with
    | nil =>
      simp only at h
      by_cases c : t.1 = 1
      · rw [if_pos c] at h
        simp only [Except.ok.injEq] at h
        subst h
        exact Or.inl ⟨rfl, rfl, W1⟩
      · rw [if_neg c] at h; cases h
    | cons f l =>
      obtain ⟨op, pl, cn⟩ := f
      have fo := F1.1 (op, pl, cn) List.mem_cons_self
      have fc := stg_m1 fo I2
      obtain ⟨fo1, fo2, fo3⟩ := fo
      simp only at fc fo1 fo2 fo3
      obtain ⟨i1, i2, i3, i4, i5, i6⟩ := id W1
      rw [if_pos rfl] at i4
      have nds : nd ((op, pl, cn) :: l) = nd1 (op, pl, cn) + nd l := rfl
      simp only at h i1 i2 i3 i4 i5 i6
      by_cases hfn : op = 25 ∨ ((op = 23 ∨ op = 24) ∧ cn = 1)
      · rw [if_pos hfn] at h
        cases e2 : comb op pl pile ps with
        | error x => rw [e2] at h; cases h
        | ok r =>
          rw [e2] at h
          simp only at h
          by_cases c : t.1 = 5
          · rw [if_pos c] at h
            simp only [Except.ok.injEq] at h
            subst h
            obtain ⟨a1, a2, a3, a4, a5⟩ := comb_ok (f := (op, pl, cn)) i2 i3 (by simp only; omega) e2
            simp only at a5
            have har : ar op = nd1 (op, pl, cn) + 1 := by
              rcases hfn with e | ⟨e, e3⟩
              · subst e; rfl
              · rw [e3]; rcases e with e4 | e4 <;> rw [e4] <;> rfl
            refine Or.inr ⟨by simp only; omega, F1.tail, a2, a4, ?_, ?_, ?_⟩
            · rw [if_pos rfl]; simp only; omega
            · simp only; omega
            · simp only; omega
          · rw [if_neg c] at h; cases h
      · rw [if_neg hfn] at h
        by_cases h4 : op = 4
        · rw [if_pos h4] at h
          by_cases c : t.1 = 5
          · rw [if_pos c] at h
            simp only [Except.ok.injEq] at h
            subst h
            refine Or.inr ⟨by simp only; omega, F1.tail, i2, i3, ?_, i5, i6⟩
            subst h4
            have : nd1 (4, pl, cn) = 0 := rfl
            rw [if_pos rfl]; simp only; omega
          · rw [if_neg c] at h; cases h
        · rw [if_neg h4] at h
          have hN : nst l < 32 := by
            have := F1.2.2
            have e9 : nst ((op, pl, cn) :: l) = 1 + nst l := by
              show (if nsts op = true then 1 else 0) + nst l = 1 + nst l
              rcases fc with rfl | rfl | rfl | rfl | rfl <;> rfl
            simp only at this
            omega
          by_cases h7 : op = 7
          · rw [if_pos h7] at h
            by_cases c : t.1 = 8
            · rw [if_pos c] at h
              simp only [Except.ok.injEq] at h
              subst h
              subst h7
              refine Or.inr ⟨by simp only; omega, (F1.tail.nest (by omega) rfl hN (by omega) fo3 (fun _ => F1.2.1.2.2 (Or.inl rfl))).1, i2, i3, ?_, i5, i6⟩
              have e1 : nd1 (7, pl, cn) = 1 := rfl
              rw [if_neg (by simp only; omega)]
              show pile.length = (2 + nd l) + 0
              omega
            · rw [if_neg c] at h; cases h
          · rw [if_neg h7] at h
            by_cases c : t.1 = 6
            · rw [if_pos c] at h
              simp only [Except.ok.injEq] at h
              subst h
              have ecn : cn = 0 := by omega
              subst ecn
              have op2 : op = 23 ∨ op = 24 := by omega
              refine Or.inr ⟨by simp only; omega, (F1.tail.nest (by omega) (by rcases op2 with rfl | rfl <;> rfl) hN (by omega) fo3 (by omega)).1, i2, i3, ?_, i5, i6⟩
              have e1 : nd1 (op, pl, 0) = 0 := by rcases op2 with rfl | rfl <;> rfl
              have e2 : nd ((op, pl, 1) :: l) = 1 + nd l := by rcases op2 with rfl | rfl <;> rfl
              rw [if_neg (by simp only; omega)]
              simp only
              omega
            · rw [if_neg c] at h; cases h
def lstS (s : Int) : Int := if s = 3 then 4 else s
theorem stepO_inv {t : Tk} {σ : St} {q : Nat × St} (ht : TkOk t) (hI : Iw 2 σ) (h : stepO t σ = .ok q) : (q.1 = 3 ∧ q.2.1 = [] ∧ Iw 2 q.2) ∨ (q.1 < 3 ∧ Iw q.1 q.2) := by
  unfold stepO at h
  by_cases c : isBin t.1 = true
  · rw [if_pos c] at h
    have bs := isBin_stg c
    cases e : stl (if stg t.1 = 3 then 4 else stg t.1) σ.1 σ.2.1 σ.2.2 with
    | error x => rw [e] at h; cases h
    | ok s =>
      rw [e] at h
      simp only at h
      obtain ⟨I1, I2⟩ := stl_Iv (by split <;> omega) _ _ _ s (show Iv (σ.1, σ.2.1, σ.2.2) from hI.iv) e
      have F1 : Fok s.1 := hI.1.settled e
      have W1 := I1.iw F1
      by_cases c3 : stg t.1 = 3 ∧ topS s.1 = 3
      · rw [if_pos c3] at h
        exact endT_inv W1 h
      · rw [if_neg c3] at h
        simp only [Except.ok.injEq] at h
        subst h
        obtain ⟨i1, i2, i3, i4, i5, i6⟩ := W1
        rw [if_pos rfl] at i4
        refine Or.inr ⟨by simp only; omega, (F1.bin c ?_ ht.2.1).1, i2, i3, ?_, i5, i6⟩
        · by_cases c4 : stg t.1 = 3
          · rw [if_pos c4] at I2; omega
          · rw [if_neg c4] at I2; omega
        · have e1 : nd1 (t.1, t.2.1, 0) = 1 := by unfold nd1; simp only; rw [if_neg (by omega), if_pos (Or.inl c)]
          rw [if_neg (by simp only; omega)]
          show s.2.1.length = (nd1 (t.1, t.2.1, 0) + nd s.1) + 0
          omega
  · rw [if_neg c] at h
    by_cases c7 : t.1 = 7
    · rw [if_pos c7] at h
      cases e : stl 1 σ.1 σ.2.1 σ.2.2 with
      | error x => rw [e] at h; cases h
      | ok s =>
        rw [e] at h
        simp only at h
        obtain ⟨I1, I2⟩ := stl_Iv (by omega) _ _ _ s (show Iv (σ.1, σ.2.1, σ.2.2) from hI.iv) e
        have F1 : Fok s.1 := hI.1.settled e
        obtain ⟨i1, i2, i3, i4, i5, i6⟩ := I1.iw F1
        rw [if_pos rfl] at i4
        refine Or.inr (nest_inv i1 i2 i3 ?_ i5 i6 (by omega) rfl (by decide) ht.2.1 (fun _ => I2) h)
        have : nd1 (7, t.2.1, 0) = 1 := rfl
        omega
    · rw [if_neg c7] at h
      exact endT_inv hI h
theorem stepM_inv {vr : Vr} {m : Nat} {t : Tk} {σ : St} {q : Nat × St} (hv : VrOk vr) (ht : TkOk t) (hm : m < 3) (hI : Iw m σ) (h : stepM vr m t σ = .ok q) : (q.1 = 3 ∧ q.2.1 = [] ∧ Iw 2 q.2) ∨ (q.1 < 3 ∧ Iw q.1 q.2) := by
  unfold stepM at h
  by_cases c0 : m = 0
  · rw [if_pos c0] at h
    subst c0
    exact Or.inr (stepB_inv hv ht hI h)
  rw [if_neg c0] at h
  by_cases c1 : m = 1
  · rw [if_pos c1] at h
    subst c1
    by_cases c4 : t.1 = 4
    · rw [if_pos c4] at h
      simp only [Except.ok.injEq] at h
      subst h
      exact Or.inr ⟨by simp only; omega, hI⟩
    · rw [if_neg c4] at h; cases h
  · rw [if_neg c1] at h
    have : m = 2 := by omega
    subst this
    exact stepO_inv ht hI h
