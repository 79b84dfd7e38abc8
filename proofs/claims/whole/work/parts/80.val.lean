/-! WELL-MADE PARTS -/
def WfPt (vr : Vr) (ps : List Pt) (i : Nat) (p : Pt) : Prop :=
  (pOp p = 2 ∧ pKd p = 0 ∧ pLo p = pHi p) ∨
  (pOp p = 3 ∧ pKd p = 0 ∧ pC p < vr.1 ∧ pLo p = vr.2.1 (pC p) ∧ pHi p = vr.2.2 (pC p)) ∨
  ((pOp p = 20 ∨ pOp p = 25 ∨ pOp p = 26) ∧ pA p < i ∧ pKd (pget ps (pA p)) = (if pOp p = 20 then 1 else 0) ∧ pKd p = (if pOp p = 20 then 1 else 0) ∧ rg1 (pOp p) (pLo (pget ps (pA p))) (pHi (pget ps (pA p))) = (pLo p, pHi p)) ∨
  (two (pOp p) ∧ pA p < i ∧ pB p < i ∧ fit2 (pOp p) (pKd (pget ps (pA p))) (pKd (pget ps (pB p))) ∧ ¬ ((pOp p = 12 ∨ pOp p = 13) ∧ pLo (pget ps (pB p)) ≤ 0 ∧ 0 ≤ pHi (pget ps (pB p))) ∧ pKd p = kd2 (pOp p) ∧ rg2 (pOp p) (pLo (pget ps (pA p))) (pHi (pget ps (pA p))) (pLo (pget ps (pB p))) (pHi (pget ps (pB p))) = (pLo p, pHi p)) ∨
  (pOp p = 7 ∧ pA p < i ∧ pB p < i ∧ pC p < i ∧ pKd (pget ps (pA p)) = 1 ∧ pKd (pget ps (pB p)) = pKd (pget ps (pC p)) ∧ pKd p = pKd (pget ps (pB p)) ∧ pLo p = min (pLo (pget ps (pB p))) (pLo (pget ps (pC p))) ∧ pHi p = max (pHi (pget ps (pB p))) (pHi (pget ps (pC p))))
/-- each part is well made of the parts ahead of it, and a truth lies in 0 .. 1 -/
def Wf (vr : Vr) : List Pt → Prop
  | [] => True
  | p :: l => Wf vr l ∧ WfPt vr l l.length p ∧ (pKd p = 1 → pLo p = 0 ∧ pHi p = 1)
theorem Wf.kd1 {vr : Vr} : ∀ {ps : List Pt}, Wf vr ps → ∀ i, i < ps.length → pKd (pget ps i) = 1 → pLo (pget ps i) = 0 ∧ pHi (pget ps i) = 1
  | [], _, i, hi => by simp at hi
  | p :: l, h, i, hi => by
    by_cases c : i = l.length
    · subst c; rw [pget_eq]; exact h.2.2
    · have hi2 : i < l.length := by simp only [List.length_cons] at hi; omega
      rw [pget_lt hi2]; exact Wf.kd1 h.1 i hi2
theorem comb_wf {vr : Vr} {op pl : Nat} {pile : List Nat} {ps : List Pt} {q : List Nat × List Pt} (hB : Bas ps) (hPi : ∀ x ∈ pile, x < ps.length) (hop : op = 27 ∨ (9 ≤ op ∧ op ≤ 26)) (hw : Wf vr ps) (h : comb op pl pile ps = .ok q) : Wf vr q.2 := by
  unfold comb at h
  by_cases h27 : op = 27
  · rw [if_pos h27] at h
    match pile, h, hPi with
    | [], h, _ => unfold comb3 at h; cases h
    | [_], h, _ => unfold comb3 at h; cases h
    | [_, _], h, _ => unfold comb3 at h; cases h
    | z :: y :: x :: t, h, hPi =>
      unfold comb3 at h
      simp only at h
      by_cases c : pKd (pget ps x) ≠ 1 ∨ pKd (pget ps y) ≠ pKd (pget ps z)
      · rw [if_pos c] at h; cases h
      · rw [if_neg c] at h
        obtain ⟨hl, rfl⟩ := addp_ok h
        have hz := hPi z (by simp)
        have hy := hPi y (by simp)
        have hx := hPi x (by simp)
        refine ⟨hw, Or.inr (Or.inr (Or.inr (Or.inr ⟨rfl, hx, hy, hz, ?_, ?_, rfl, rfl, rfl⟩))), ?_⟩
        · show pKd (pget ps x) = 1; omega
        · show pKd (pget ps y) = pKd (pget ps z); omega
        · intro e
          have e' : pKd (pget ps y) = 1 := e
          have k1 := hw.kd1 y hy e'
          have k2 := hw.kd1 z hz (by omega)
          show min (pLo (pget ps y)) (pLo (pget ps z)) = 0 ∧ max (pHi (pget ps y)) (pHi (pget ps z)) = 1
          omega
  · rw [if_neg h27] at h
    by_cases hu : op = 20 ∨ op = 25 ∨ op = 26
    · rw [if_pos hu] at h
      match pile, h, hPi with
      | [], h, _ => unfold comb1 at h; cases h
      | r :: t, h, hPi =>
        unfold comb1 at h
        simp only at h
        by_cases c : pKd (pget ps r) ≠ (if op = 20 then 1 else 0)
        · rw [if_pos c] at h; cases h
        · rw [if_neg c] at h
          obtain ⟨hl, rfl⟩ := addp_ok h
          have hr := hPi r (by simp)
          refine ⟨hw, Or.inr (Or.inr (Or.inl ⟨hu, hr, ?_, rfl, rfl⟩)), ?_⟩
          · show pKd (pget ps r) = (if op = 20 then 1 else 0)
            exact Decidable.not_not.mp c
          · intro e
            have e' : (if op = 20 then 1 else 0) = 1 := e
            have e20 : op = 20 := by
              by_cases c9 : op = 20
              · exact c9
              · rw [if_neg c9] at e'; omega
            show (rg1 op (pLo (pget ps r)) (pHi (pget ps r))).1 = 0 ∧ (rg1 op (pLo (pget ps r)) (pHi (pget ps r))).2 = 1
            rw [e20]; exact ⟨rfl, rfl⟩
    · rw [if_neg hu] at h
      match pile, h, hPi with
      | [], h, _ => unfold comb2 at h; cases h
      | [_], h, _ => unfold comb2 at h; cases h
      | r :: l :: t, h, hPi =>
        unfold comb2 at h
        simp only at h
        by_cases c1 : fit2 op (pKd (pget ps l)) (pKd (pget ps r))
        · rw [if_neg (fun z => z c1)] at h
          by_cases c2 : (op = 12 ∨ op = 13) ∧ pLo (pget ps r) ≤ 0 ∧ 0 ≤ pHi (pget ps r)
          · rw [if_pos c2] at h; cases h
          · rw [if_neg c2] at h
            by_cases c3 : (rg2 op (pLo (pget ps l)) (pHi (pget ps l)) (pLo (pget ps r)) (pHi (pget ps r))).1 < -EG ∨ EG < (rg2 op (pLo (pget ps l)) (pHi (pget ps l)) (pLo (pget ps r)) (pHi (pget ps r))).2
            · rw [if_pos c3] at h; cases h
            · rw [if_neg c3] at h
              obtain ⟨hl9, rfl⟩ := addp_ok h
              have hr := hPi r (by simp)
              have hl := hPi l (by simp)
              have ht : two op := by unfold two; omega
              refine ⟨hw, Or.inr (Or.inr (Or.inr (Or.inl ⟨ht, hl, hr, c1, c2, rfl, rfl⟩))), ?_⟩
              intro e
              have e' : kd2 op = 1 := e
              have ne : ¬ ((9 ≤ op ∧ op ≤ 13) ∨ op = 23 ∨ op = 24) := by
                intro z; unfold kd2 at e'; rw [if_pos z] at e'; omega
              show (rg2 op (pLo (pget ps l)) (pHi (pget ps l)) (pLo (pget ps r)) (pHi (pget ps r))).1 = 0 ∧ (rg2 op (pLo (pget ps l)) (pHi (pget ps l)) (pLo (pget ps r)) (pHi (pget ps r))).2 = 1
              unfold rg2
              rw [if_neg (by omega), if_neg (by omega), if_neg (by omega), if_neg (by omega), if_neg (by omega), if_neg (by omega), if_neg (by omega)]
              exact ⟨rfl, rfl⟩
        · rw [if_pos c1] at h; cases h
theorem stl_wf {vr : Vr} {r : Int} (hr : 0 ≤ r) : ∀ (ws : List Fr) (pile : List Nat) (ps : List Pt) (σ : St), Iv (ws, pile, ps) → Wf vr ps → stl r ws pile ps = .ok σ → Wf vr σ.2.2
  | [], pile, ps, σ, hI, hw, h => by
    simp only [stl, Except.ok.injEq] at h
    subst h
    exact hw
  | f :: ws, pile, ps, σ, hI, hw, h => by
    rw [stl] at h
    by_cases c : r ≤ stg f.1
    · rw [if_pos c] at h
      cases e : comb f.1 f.2.1 pile ps with
      | ok q =>
        rw [e] at h
        have s1 := (stg_op (show 0 ≤ stg f.1 by omega)).1
        exact stl_wf hr ws q.1 q.2 σ (hI.step (by omega) e) (comb_wf hI.2.1 hI.2.2.1 s1 hw e) h
      | error x => rw [e] at h; cases h
    · rw [if_neg c] at h
      simp only [Except.ok.injEq] at h
      subst h
      exact hw
theorem leaf_wf {vr : Vr} {σ : St} {p : Pt} {q : Nat × St} (hw : Wf vr σ.2.2) (h1 : WfPt vr σ.2.2 σ.2.2.length p) (h2 : pKd p = 0) (h : leafS σ p = .ok q) : Wf vr q.2.2.2 := by
  unfold leafS at h
  cases e : addp σ.2.1 σ.2.2 p with
  | error x => rw [e] at h; cases h
  | ok r =>
    rw [e] at h
    simp only [Except.ok.injEq] at h
    obtain ⟨e1, e2⟩ := addp_ok e
    subst h e2
    exact ⟨hw, h1, fun z => by omega⟩
theorem nest_wf {vr : Vr} {σ : St} {op m pl : Nat} {q : Nat × St} (hw : Wf vr σ.2.2) (h : nestS op m pl σ = .ok q) : Wf vr q.2.2.2 := by
  unfold nestS at h
  by_cases c : 32 ≤ nst σ.1
  · rw [if_pos c] at h; cases h
  · rw [if_neg c] at h
    simp only [Except.ok.injEq] at h
    subst h
    exact hw
theorem stepB_wf {vr : Vr} {t : Tk} {σ : St} {q : Nat × St} (hw : Wf vr σ.2.2) (h : stepB vr t σ = .ok q) : Wf vr q.2.2.2 := by
  unfold stepB at h
  by_cases c2 : t.1 = 2
  · rw [if_pos c2] at h
    exact leaf_wf hw (Or.inl ⟨rfl, rfl, rfl⟩) rfl h
  rw [if_neg c2] at h
  by_cases c3 : t.1 = 3
  · rw [if_pos c3] at h
    by_cases cv : t.2.2.1 < vr.1
    · rw [if_pos cv] at h
      exact leaf_wf (p := (3, t.2.1, 0, vr.2.1 t.2.2.1, vr.2.2 t.2.2.1, 0, 0, t.2.2.1, 1)) hw (Or.inr (Or.inl ⟨rfl, rfl, cv, rfl, rfl⟩)) rfl h
    · rw [if_neg cv] at h; cases h
  rw [if_neg c3] at h
  by_cases c10 : t.1 = 10
  · rw [if_pos c10] at h; exact nest_wf hw h
  rw [if_neg c10] at h
  by_cases c20 : t.1 = 20 ∨ t.1 = 4
  · rw [if_pos c20] at h; exact nest_wf hw h
  rw [if_neg c20] at h
  by_cases c23 : t.1 = 23 ∨ t.1 = 24 ∨ t.1 = 25
  · rw [if_pos c23] at h; exact nest_wf hw h
  rw [if_neg c23] at h
  cases h
theorem endT_wf {vr : Vr} {t : Tk} {σ : St} {q : Nat × St} (hI : Iw 2 σ) (hw : Wf vr σ.2.2) (h : endT t σ = .ok q) : Wf vr q.2.2.2 := by
  cases e : stl 0 σ.1 σ.2.1 σ.2.2 with
  | error x => rw [endT_ster (by decide) e] at h; cases h
  | ok s =>
    obtain ⟨I1, I2⟩ := stl_Iv (by decide) _ _ _ s (show Iv (σ.1, σ.2.1, σ.2.2) from hI.iv) e
    have W1 := stl_wf (vr := vr) (by decide) _ _ _ s (show Iv (σ.1, σ.2.1, σ.2.2) from hI.iv) hw e
    obtain ⟨ws, r⟩ := s
    cases ws with
    | nil =>
      rw [endT_nil e] at h
      by_cases c : t.1 = 1
      · rw [if_pos c] at h; cases h; exact W1
      · rw [if_neg c] at h; cases h
    | cons f l =>
      by_cases hf : fullF f
      · rw [endT_full e hf] at h
        cases e2 : comb f.1 f.2.1 r.1 r.2 with
        | error x => rw [e2] at h; cases h
        | ok q2 =>
          rw [e2] at h
          simp only at h
          have W2 := comb_wf I1.2.1 I1.2.2.1 (by unfold fullF at hf; omega) W1 e2
          by_cases c : t.1 = 5
          · rw [if_pos c] at h; cases h; exact W2
          · rw [if_neg c] at h; cases h
      · rw [endT_rest e hf] at h
        by_cases c4 : f.1 = 4
        · rw [if_pos c4] at h
          by_cases c : t.1 = 5
          · rw [if_pos c] at h; cases h; exact W1
          · rw [if_neg c] at h; cases h
        · rw [if_neg c4] at h
          by_cases c7 : f.1 = 7
          · rw [if_pos c7] at h
            by_cases c : t.1 = 8
            · rw [if_pos c] at h; cases h; exact W1
            · rw [if_neg c] at h; cases h
          · rw [if_neg c7] at h
            by_cases c : t.1 = 6
            · rw [if_pos c] at h; cases h; exact W1
            · rw [if_neg c] at h; cases h
theorem stepO_wf {vr : Vr} {t : Tk} {σ : St} {q : Nat × St} (hI : Iw 2 σ) (hw : Wf vr σ.2.2) (h : stepO t σ = .ok q) : Wf vr q.2.2.2 := by
  unfold stepO at h
  by_cases c : isBin t.1 = true
  · rw [if_pos c] at h
    have bs := isBin_stg c
    cases e : stl (if stg t.1 = 3 then 4 else stg t.1) σ.1 σ.2.1 σ.2.2 with
    | error x => rw [e] at h; cases h
    | ok s =>
      rw [e] at h
      simp only at h
      have hr : 0 ≤ (if stg t.1 = 3 then 4 else stg t.1) := by split <;> omega
      obtain ⟨I1, I2⟩ := stl_Iv hr _ _ _ s (show Iv (σ.1, σ.2.1, σ.2.2) from hI.iv) e
      have W1 := stl_wf (vr := vr) hr _ _ _ s (show Iv (σ.1, σ.2.1, σ.2.2) from hI.iv) hw e
      by_cases c3 : stg t.1 = 3 ∧ topS s.1 = 3
      · rw [if_pos c3] at h; exact endT_wf (I1.iw (hI.1.settled e)) W1 h
      · rw [if_neg c3] at h; cases h; exact W1
  · rw [if_neg c] at h
    by_cases c7 : t.1 = 7
    · rw [if_pos c7] at h
      cases e : stl 1 σ.1 σ.2.1 σ.2.2 with
      | error x => rw [e] at h; cases h
      | ok s =>
        rw [e] at h
        simp only at h
        have W1 := stl_wf (vr := vr) (by decide) _ _ _ s (show Iv (σ.1, σ.2.1, σ.2.2) from hI.iv) hw e
        exact nest_wf W1 h
    · rw [if_neg c7] at h; exact endT_wf hI hw h
theorem stepM_wf {vr : Vr} {m : Nat} {t : Tk} {σ : St} {q : Nat × St} (hm : m < 3) (hI : Iw m σ) (hw : Wf vr σ.2.2) (h : stepM vr m t σ = .ok q) : Wf vr q.2.2.2 := by
  unfold stepM at h
  by_cases c0 : m = 0
  · rw [if_pos c0] at h; exact stepB_wf hw h
  rw [if_neg c0] at h
  by_cases c1 : m = 1
  · rw [if_pos c1] at h
    by_cases c4 : t.1 = 4
    · rw [if_pos c4] at h; cases h; exact hw
    · rw [if_neg c4] at h; cases h
  · rw [if_neg c1] at h
    have : m = 2 := by omega
    subst this
    exact stepO_wf hI hw h
theorem runT_wf {sg : Nat → Nat} {n : Nat} {vr : Vr} (hv : VrOk vr) (ht : ∀ i, i ≤ n → TkOk (tok sg n i)) : ∀ (fu m i : Nat) (σ : St) (ps : List Pt), m < 3 → i ≤ n → Iw m σ → Wf vr σ.2.2 → runT sg n vr fu m i σ = .ok ps → Wf vr ps
  | 0, m, i, σ, ps, hm, hi, hI, hw, h => by simp [runT] at h
  | fu + 1, m, i, σ, ps, hm, hi, hI, hw, h => by
    rw [runT] at h
    cases e : stepM vr m (tok sg n i) σ with
    | error x => rw [e] at h; cases h
    | ok q =>
      rw [e] at h
      simp only at h
      have W1 := stepM_wf hm hI hw e
      by_cases c3 : q.1 = 3
      · rw [if_pos c3] at h; cases h; exact W1
      · rw [if_neg c3] at h
        rcases stepM_inv hv (ht i hi) hm hI e with ⟨w, _⟩ | ⟨w1, w2⟩
        · exact absurd w c3
        · have n0 : (tok sg n i).1 ≠ 0 := fun z => c3 (stepM_end (Or.inl z) e)
          have n1 : (tok sg n i).1 ≠ 1 := fun z => c3 (stepM_end (Or.inr z) e)
          exact runT_wf hv ht fu q.1 _ q.2 ps w1 (tok_pos hi n0 n1).2 w2 W1 h
