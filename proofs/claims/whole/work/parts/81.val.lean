/-! WHAT THE PARTS ARE WORTH, and that it lies in their ranges -/
theorem mul_lin {A B a c : Int} (h1 : A ≤ a) (h2 : a ≤ B) : min (A * c) (B * c) ≤ a * c ∧ a * c ≤ max (A * c) (B * c) := by
  by_cases hc : 0 ≤ c
  · have e1 := Int.mul_le_mul_of_nonneg_right h1 hc
    have e2 := Int.mul_le_mul_of_nonneg_right h2 hc
    omega
  · have hc' : c ≤ 0 := by omega
    have e1 := Int.mul_le_mul_of_nonpos_right h1 hc'
    have e2 := Int.mul_le_mul_of_nonpos_right h2 hc'
    omega
theorem mul_in {A B C D a c : Int} (h1 : A ≤ a) (h2 : a ≤ B) (h3 : C ≤ c) (h4 : c ≤ D) : mn4 (A * C) (A * D) (B * C) (B * D) ≤ a * c ∧ a * c ≤ mx4 (A * C) (A * D) (B * C) (B * D) := by
  have e1 := mul_lin (c := c) h1 h2
  have e2 := mul_lin (c := A) h3 h4
  have e3 := mul_lin (c := B) h3 h4
  rw [Int.mul_comm c A, Int.mul_comm C A, Int.mul_comm D A] at e2
  rw [Int.mul_comm c B, Int.mul_comm C B, Int.mul_comm D B] at e3
  unfold mn4 mx4
  omega
theorem ediv_anti {a c d : Int} (ha : 0 ≤ a) (hc : 0 < c) (hd : c ≤ d) : a / d ≤ a / c := by
  rw [Int.le_ediv_iff_mul_le hc]
  have h0 : 0 ≤ a / d := Int.ediv_nonneg ha (by omega)
  have h1 : a / d * c ≤ a / d * d := Int.mul_le_mul_of_nonneg_left hd h0
  have h2 : a / d * d ≤ a := Int.ediv_mul_le a (by omega)
  omega
/-- in the divisor, both of one sign -/
theorem tdiv_mid {a c C D : Int} (h3 : C ≤ c) (h4 : c ≤ D) (h0 : 0 < C) : min (a.tdiv C) (a.tdiv D) ≤ a.tdiv c ∧ a.tdiv c ≤ max (a.tdiv C) (a.tdiv D) := by
  by_cases ha : 0 ≤ a
  · rw [Int.tdiv_eq_ediv_of_nonneg ha, Int.tdiv_eq_ediv_of_nonneg ha, Int.tdiv_eq_ediv_of_nonneg ha]
    have e1 := ediv_anti ha h0 h3
    have e2 := ediv_anti ha (show 0 < c by omega) h4
    omega
  · have hb : 0 ≤ -a := by omega
    have e1 := ediv_anti hb h0 h3
    have e2 := ediv_anti hb (show 0 < c by omega) h4
    rw [← Int.tdiv_eq_ediv_of_nonneg hb, ← Int.tdiv_eq_ediv_of_nonneg hb] at e1 e2
    rw [Int.neg_tdiv, Int.neg_tdiv] at e1 e2
    omega
theorem tdiv_in {A B C D a c : Int} (h1 : A ≤ a) (h2 : a ≤ B) (h3 : C ≤ c) (h4 : c ≤ D) (hz : ¬ (C ≤ 0 ∧ 0 ≤ D)) : mn4 (A.tdiv C) (A.tdiv D) (B.tdiv C) (B.tdiv D) ≤ a.tdiv c ∧ a.tdiv c ≤ mx4 (A.tdiv C) (A.tdiv D) (B.tdiv C) (B.tdiv D) := by
  by_cases hC : 0 < C
  · have e1 := Int.tdiv_le_tdiv (show 0 < c by omega) h1
    have e2 := Int.tdiv_le_tdiv (show 0 < c by omega) h2
    have e3 := tdiv_mid (a := A) h3 h4 hC
    have e4 := tdiv_mid (a := B) h3 h4 hC
    unfold mn4 mx4
    omega
  · have hD : 0 < -D := by omega
    have e1 := Int.tdiv_le_tdiv (show 0 < -c by omega) h1
    have e2 := Int.tdiv_le_tdiv (show 0 < -c by omega) h2
    have e3 := tdiv_mid (a := A) (show -D ≤ -c by omega) (show -c ≤ -C by omega) hD
    have e4 := tdiv_mid (a := B) (show -D ≤ -c by omega) (show -c ≤ -C by omega) hD
    simp only [Int.tdiv_neg] at e1 e2 e3 e4
    unfold mn4 mx4
    omega
theorem rem_in {A B C D a c : Int} (h1 : A ≤ a) (h2 : a ≤ B) (h3 : C ≤ c) (h4 : c ≤ D) (hz : ¬ (C ≤ 0 ∧ 0 ≤ D)) :
    (if A < 0 then -(min (max (ab C) (ab D) - 1) (-A)) else 0) ≤ a - a.tdiv c * c ∧ a - a.tdiv c * c ≤ (if 0 < B then min (max (ab C) (ab D) - 1) B else 0) := by
  have e : a - a.tdiv c * c = a.tmod c := by have := Int.tdiv_mul_self a c; omega
  rw [e]
  have hc0 : c ≠ 0 := by omega
  have habc : ab c ≤ max (ab C) (ab D) := by unfold ab; split <;> split <;> split <;> omega
  have nn : ∀ x : Int, 0 ≤ x → 0 ≤ x.tmod c ∧ x.tmod c ≤ ab c - 1 ∧ x.tmod c ≤ x := by
    intro x hx
    have p0 := Int.tmod_nonneg c hx
    refine ⟨p0, ?_, ?_⟩
    · by_cases hc : 0 < c
      · have := Int.tmod_lt_of_pos x hc
        unfold ab; rw [if_neg (by omega)]; omega
      · have := Int.tmod_lt_of_pos x (show 0 < -c by omega)
        rw [Int.tmod_neg] at this
        unfold ab; rw [if_pos (by omega)]; omega
    · have q := Int.tdiv_mul_self x c
      by_cases hc : 0 < c
      · have q0 := Int.tdiv_nonneg hx (show 0 ≤ c by omega)
        have := Int.mul_nonneg q0 (show 0 ≤ c by omega)
        omega
      · have q0 := Int.tdiv_nonneg hx (show 0 ≤ -c by omega)
        have := Int.mul_nonneg q0 (show 0 ≤ -c by omega)
        rw [Int.tdiv_neg, Int.neg_mul_neg] at this
        omega
  by_cases ha : 0 ≤ a
  · obtain ⟨p1, p2, p3⟩ := nn a ha
    split <;> split <;> omega
  · obtain ⟨p1, p2, p3⟩ := nn (-a) (by omega)
    rw [Int.neg_tmod] at p1 p2 p3
    split <;> split <;> omega
def v1 (op : Nat) (a : Int) : Int := if op = 20 then 1 - a else if op = 25 then ab a else -a
def v2 (op : Nat) (a b : Int) : Int :=
  if op = 9 then a + b else if op = 10 then a - b else if op = 11 then a * b else if op = 12 then a.tdiv b else if op = 13 then a - a.tdiv b * b
  else if op = 14 then (if a < b then 1 else 0) else if op = 15 then (if a ≤ b then 1 else 0) else if op = 16 then (if b < a then 1 else 0) else if op = 17 then (if b ≤ a then 1 else 0)
  else if op = 18 then (if a = b then 1 else 0) else if op = 19 then (if a = b then 0 else 1) else if op = 21 then a * b else if op = 22 then max a b else if op = 23 then min a b else max a b
def vPt (wv : Nat → Int) (p : Pt) (f : Nat → Int) : Int :=
  if pOp p = 2 then pLo p else if pOp p = 3 then wv (pC p) else if pOp p = 7 then (if f (pA p) = 1 then f (pB p) else f (pC p))
  else if pOp p = 20 ∨ pOp p = 25 ∨ pOp p = 26 then v1 (pOp p) (f (pA p)) else v2 (pOp p) (f (pA p)) (f (pB p))
def vget (wv : Nat → Int) : List Pt → Nat → Int
  | [], _ => 0
  | p :: l, i => if i = l.length then vPt wv p (vget wv l) else vget wv l i
theorem vget_lt {wv : Nat → Int} {p : Pt} {ps : List Pt} {i : Nat} (h : i < ps.length) : vget wv (p :: ps) i = vget wv ps i := by
  show (if i = ps.length then _ else vget wv ps i) = vget wv ps i
  rw [if_neg (by omega)]
theorem vget_eq {wv : Nat → Int} {p : Pt} {ps : List Pt} : vget wv (p :: ps) ps.length = vPt wv p (vget wv ps) := by
  show (if ps.length = ps.length then _ else vget wv ps ps.length) = _
  rw [if_pos rfl]
theorem rg1_in {op : Nat} {a A B : Int} (ho : op = 20 ∨ op = 25 ∨ op = 26) (h1 : A ≤ a) (h2 : a ≤ B) (h20 : op = 20 → A = 0 ∧ B = 1) : (rg1 op A B).1 ≤ v1 op a ∧ v1 op a ≤ (rg1 op A B).2 := by
  rcases ho with e | e | e
  · have := h20 e
    subst e
    show 0 ≤ 1 - a ∧ 1 - a ≤ 1
    omega
  · subst e
    show (if A ≤ 0 ∧ 0 ≤ B then 0 else min (ab A) (ab B)) ≤ ab a ∧ ab a ≤ max (ab A) (ab B)
    unfold ab
    split <;> split <;> split <;> split <;> omega
  · subst e
    show -B ≤ -a ∧ -a ≤ -A
    omega
theorem rg2_in {op : Nat} {a b A B C D : Int} (ho : two op) (h1 : A ≤ a) (h2 : a ≤ B) (h3 : C ≤ b) (h4 : b ≤ D) (hz : ¬ ((op = 12 ∨ op = 13) ∧ C ≤ 0 ∧ 0 ≤ D)) (hl : op = 21 ∨ op = 22 → A = 0 ∧ B = 1 ∧ C = 0 ∧ D = 1) : (rg2 op A B C D).1 ≤ v2 op a b ∧ v2 op a b ≤ (rg2 op A B C D).2 := by
  have b01 : ∀ (P : Prop) [Decidable P], (0 : Int) ≤ (if P then 1 else 0) ∧ (if P then 1 else 0) ≤ (1 : Int) := by
    intro P _; split <;> decide
  have b10 : ∀ (P : Prop) [Decidable P], (0 : Int) ≤ (if P then 0 else 1) ∧ (if P then 0 else 1) ≤ (1 : Int) := by
    intro P _; split <;> decide
  have hlt : op < 28 := by unfold two at ho; omega
  unfold two at ho
  rcases (show op = 9 ∨ op = 10 ∨ op = 11 ∨ op = 12 ∨ op = 13 ∨ op = 14 ∨ op = 15 ∨ op = 16 ∨ op = 17 ∨ op = 18 ∨ op = 19 ∨ op = 21 ∨ op = 22 ∨ op = 23 ∨ op = 24 by omega) with e | e | e | e | e | e | e | e | e | e | e | e | e | e | e
  · subst e; show A + C ≤ a + b ∧ a + b ≤ B + D; omega
  · subst e; show A - D ≤ a - b ∧ a - b ≤ B - C; omega
  · subst e; exact mul_in h1 h2 h3 h4
  · subst e; exact tdiv_in h1 h2 h3 h4 (fun z => hz ⟨Or.inl rfl, z⟩)
  · subst e; exact rem_in h1 h2 h3 h4 (fun z => hz ⟨Or.inr rfl, z⟩)
  · subst e; exact b01 _
  · subst e; exact b01 _
  · subst e; exact b01 _
  · subst e; exact b01 _
  · subst e; exact b01 _
  · subst e; exact b10 _
  · have hh := hl (Or.inl e)
    subst e
    show 0 ≤ a * b ∧ a * b ≤ 1
    have ha : a = 0 ∨ a = 1 := by omega
    rcases ha with rfl | rfl
    · rw [Int.zero_mul]; decide
    · rw [Int.one_mul]; omega
  · have hh := hl (Or.inr e)
    subst e
    show 0 ≤ max a b ∧ max a b ≤ 1
    omega
  · subst e; show min A C ≤ min a b ∧ min a b ≤ min B D; omega
  · subst e; show max A C ≤ max a b ∧ max a b ≤ max B D; omega
def WvOk (vr : Vr) (wv : Nat → Int) : Prop := ∀ j, j < vr.1 → vr.2.1 j ≤ wv j ∧ wv j ≤ vr.2.2 j
theorem val_in {vr : Vr} {wv : Nat → Int} (hv : WvOk vr wv) : ∀ {ps : List Pt}, Wf vr ps → ∀ i, i < ps.length → pLo (pget ps i) ≤ vget wv ps i ∧ vget wv ps i ≤ pHi (pget ps i)
  | [], _, i, hi => by simp at hi
  | p :: l, h, i, hi => by
    by_cases c : i = l.length
    · subst c
      rw [pget_eq, vget_eq]
      have ih := val_in hv h.1
      unfold vPt
      rcases h.2.1 with w | w | w | w | w
      · rw [if_pos w.1]; omega
      · obtain ⟨w1, w2, w3, w4, w5⟩ := w
        rw [if_neg (by omega), if_pos w1, w4, w5]
        exact hv _ w3
      · obtain ⟨w1, w2, w3, w4, w5⟩ := w
        rw [if_neg (by omega), if_neg (by omega), if_neg (by omega), if_pos w1]
        obtain ⟨i1, i2⟩ := ih _ w2
        have := rg1_in w1 i1 i2 (fun e => h.1.kd1 _ w2 (by rw [w3, if_pos e]))
        rw [w5] at this
        exact this
      · obtain ⟨w1, w2, w3, w4, w5, w6, w7⟩ := w
        have wt := w1
        unfold two at wt
        rw [if_neg (by omega), if_neg (by omega), if_neg (by omega), if_neg (by omega)]
        obtain ⟨i1, i2⟩ := ih _ w2
        obtain ⟨i3, i4⟩ := ih _ w3
        have := rg2_in w1 i1 i2 i3 i4 w5 (fun e => by
          unfold fit2 at w4
          rw [if_neg (by omega), if_pos e] at w4
          have k1 := h.1.kd1 _ w2 w4.1
          have k2 := h.1.kd1 _ w3 w4.2
          exact ⟨k1.1, k1.2, k2.1, k2.2⟩)
        rw [w7] at this
        exact this
      · obtain ⟨w1, w2, w3, w4, w5, w6, w7, w8, w9⟩ := w
        rw [if_neg (by omega), if_neg (by omega), if_pos w1, w8, w9]
        obtain ⟨i3, i4⟩ := ih _ w3
        obtain ⟨i5, i6⟩ := ih _ w4
        split <;> omega
    · have hi2 : i < l.length := by simp only [List.length_cons] at hi; omega
      rw [pget_lt hi2, vget_lt hi2]
      exact val_in hv h.1 i hi2
