theorem WfPt.up {vr : Vr} {x p : Pt} {l : List Pt} {i : Nat} (hi : i ≤ l.length) (h : WfPt vr l i p) : WfPt vr (x :: l) i p := by
  unfold WfPt at *
  rcases h with w | w | w | w | w
  · exact Or.inl w
  · exact Or.inr (Or.inl w)
  · refine Or.inr (Or.inr (Or.inl ?_))
    rw [pget_lt (show pA p < l.length by omega)]; exact w
  · refine Or.inr (Or.inr (Or.inr (Or.inl ?_)))
    rw [pget_lt (show pA p < l.length by omega), pget_lt (show pB p < l.length by omega)]; exact w
  · refine Or.inr (Or.inr (Or.inr (Or.inr ?_)))
    rw [pget_lt (show pA p < l.length by omega), pget_lt (show pB p < l.length by omega), pget_lt (show pC p < l.length by omega)]; exact w
theorem Wf.at {vr : Vr} : ∀ {ps : List Pt}, Wf vr ps → ∀ i, i < ps.length → WfPt vr ps i (pget ps i)
  | [], _, i, hi => by simp at hi
  | p :: l, h, i, hi => by
    by_cases c : i = l.length
    · subst c; rw [pget_eq]; exact h.2.1.up (Nat.le_refl _)
    · have hi2 : i < l.length := by simp only [List.length_cons] at hi; omega
      rw [pget_lt hi2]; exact (Wf.at h.1 i hi2).up (by omega)
theorem vPt_same {wv : Nat → Int} {vr : Vr} {ps : List Pt} {i : Nat} {p : Pt} {f g : Nat → Int} (w : WfPt vr ps i p) (e : ∀ x, x < i → f x = g x) : vPt wv p f = vPt wv p g := by
  unfold vPt
  rcases w with w | w | w | w | w
  · rw [if_pos w.1, if_pos w.1]
  · rw [if_neg (by omega), if_pos w.1, if_neg (by omega), if_pos w.1]
  · rw [if_neg (by omega), if_neg (by omega), if_neg (by omega), if_pos w.1, if_neg (by omega), if_neg (by omega), if_neg (by omega), if_pos w.1, e _ w.2.1]
  · have wt := w.1
    unfold two at wt
    rw [if_neg (by omega), if_neg (by omega), if_neg (by omega), if_neg (by omega), if_neg (by omega), if_neg (by omega), if_neg (by omega), if_neg (by omega), e _ w.2.1, e _ w.2.2.1]
  · have n2 : ¬ pOp p = 2 := by omega
    have n3 : ¬ pOp p = 3 := by omega
    rw [if_neg n2, if_neg n3, if_pos w.1, if_neg n2, if_neg n3, if_pos w.1, e _ w.2.1, e _ w.2.2.1, e _ w.2.2.2.1]
theorem vget_at {wv : Nat → Int} {vr : Vr} : ∀ {ps : List Pt}, Wf vr ps → ∀ i, i < ps.length → vget wv ps i = vPt wv (pget ps i) (vget wv ps)
  | [], _, i, hi => by simp at hi
  | p :: l, h, i, hi => by
    by_cases c : i = l.length
    · subst c
      rw [pget_eq, vget_eq]
      exact vPt_same h.2.1 (fun x hx => (vget_lt hx).symm)
    · have hi2 : i < l.length := by simp only [List.length_cons] at hi; omega
      rw [pget_lt hi2, vget_lt hi2, vget_at h.1 i hi2]
      exact vPt_same (h.1.at i hi2) (fun x hx => (vget_lt (by omega)).symm)
theorem cmp_eq {a b : Int} (ha : sm a) (hb : sm b) : lg_cmp (jL a) (jL b) = 0 ↔ a = b := by rw [lg_cmp_eq, j_eq ha hb]
/-- what the values of a term's parts are, at hand -/
def VC (vr : Vr) (wv : Nat → Int) (ps : List Pt) : Prop := Wf vr ps ∧ Bas ps ∧ ps.length ≤ 100 ∧ VrOk vr ∧ WvOk vr wv
theorem VC.w2 {vr : Vr} {wv : Nat → Int} {ps : List Pt} (c : VC vr wv ps) {i : Nat} (hi : i < ps.length) : wi (vget wv ps i) := by
  have h1 := val_in c.2.2.2.2 c.1 i hi
  have h2 := c.2.1 i hi
  unfold wi at *
  omega
theorem VC.t01 {vr : Vr} {wv : Nat → Int} {ps : List Pt} (c : VC vr wv ps) {i : Nat} (hi : i < ps.length) (hk : pKd (pget ps i) = 1) : vget wv ps i = 0 ∨ vget wv ps i = 1 := by
  have h1 := val_in c.2.2.2.2 c.1 i hi
  have h2 := c.1.kd1 i hi hk
  omega
theorem sp_T_isTrue {op : Nat} {a b : Int} {h : zH} {post : Int32 → zH → Prop} (ho : (14 ≤ op ∧ op ≤ 19) ∨ op = 21 ∨ op = 22) (ha : sm a) (hb : sm b) (hl : op = 21 ∨ op = 22 → (a = 0 ∨ a = 1) ∧ (b = 0 ∨ b = 1)) (h0 : v2 op a b = 0 → post 0 h) (h1 : v2 op a b = 1 → post 1 h) : wp_T_isTrue (nI op) (jL a) (jL b) h post := by
  have s0 : sm 0 := by unfold sm; omega
  have L : ∀ d : Nat, d < 2147483648 → (nI op = (no_index (OfNat.ofNat d : Int32)) ↔ op = d) := fun d hd => nI_lit (by omega) hd
  unfold wp_T_isTrue b_T_isTrue_63 b_T_isTrue_75 b_T_isTrue_87 b_T_isTrue_99 b_T_isTrue_111 b_T_isTrue_123 b_T_isTrue_135 b_T_isTrue_152 b_T_isTrue_153 b_T_isTrue_166 b_T_isTrue_171
  rw [L 14 (by decide), L 15 (by decide), L 16 (by decide), L 17 (by decide), L 18 (by decide), L 19 (by decide), L 20 (by decide), L 21 (by decide), L 22 (by decide)]
  rw [← j0, lg_cmp_ge, lg_cmp_gt, lg_cmp_le, lg_cmp_lt, cmp_eq ha hb, cmp_eq hb s0, cmp_eq ha s0, j_le hb ha, j_lt hb ha, j_le ha hb, j_lt ha hb]
  refine ⟨fun c => ?_, fun n1 => ⟨fun c => ?_, fun n2 => ⟨fun c => ?_, fun n3 => ⟨fun c => ?_, fun n4 => ⟨fun c => ?_, fun n5 => ⟨fun c => ?_, fun n6 => ⟨fun c => ?_, fun n7 => ⟨fun c => ?_, fun n8 => ⟨fun c => ?_, fun n9 => ?_⟩⟩⟩⟩⟩⟩⟩⟩⟩
  · subst c
    refine ⟨fun q => ⟨rfl, h0 ?_⟩, fun q => ⟨rfl, h1 ?_⟩⟩ <;> (show (if a < b then (1 : Int) else 0) = _)
    · rw [if_neg (by omega)]
    · rw [if_pos (by omega)]
  · subst c
    refine ⟨fun q => ⟨rfl, h0 ?_⟩, fun q => ⟨rfl, h1 ?_⟩⟩ <;> (show (if a ≤ b then (1 : Int) else 0) = _)
    · rw [if_neg (by omega)]
    · rw [if_pos (by omega)]
  · subst c
    refine ⟨fun q => ⟨rfl, h0 ?_⟩, fun q => ⟨rfl, h1 ?_⟩⟩ <;> (show (if b < a then (1 : Int) else 0) = _)
    · rw [if_neg (by omega)]
    · rw [if_pos (by omega)]
  · subst c
    refine ⟨fun q => ⟨rfl, h0 ?_⟩, fun q => ⟨rfl, h1 ?_⟩⟩ <;> (show (if b ≤ a then (1 : Int) else 0) = _)
    · rw [if_neg (by omega)]
    · rw [if_pos (by omega)]
  · subst c
    refine ⟨fun q => ⟨rfl, h0 ?_⟩, fun q => ⟨rfl, h1 ?_⟩⟩ <;> (show (if a = b then (1 : Int) else 0) = _)
    · rw [if_neg q]
    · rw [if_pos q]
  · subst c
    refine ⟨fun q => ⟨rfl, h0 ?_⟩, fun q => ⟨rfl, h1 ?_⟩⟩ <;> (show (if a = b then (0 : Int) else 1) = _)
    · rw [if_pos q]
    · rw [if_neg q]
  · omega
  · obtain ⟨l1, l2⟩ := hl (Or.inl c)
    subst c
    refine ⟨fun q => ⟨rfl, h0 ?_⟩, fun q => ⟨fun q2 => ⟨rfl, h0 ?_⟩, fun q2 => ⟨rfl, h1 ?_⟩⟩⟩ <;> (show a * b = _)
    · rw [q, Int.zero_mul]
    · rw [q2, Int.mul_zero]
    · have e1 : a = 1 := by omega
      have e2 : b = 1 := by omega
      rw [e1, e2]; rfl
  · obtain ⟨l1, l2⟩ := hl (Or.inr c)
    subst c
    refine ⟨fun q => ⟨rfl, h1 ?_⟩, fun q => ⟨fun q2 => ⟨rfl, h0 ?_⟩, fun q2 => ⟨rfl, h1 ?_⟩⟩⟩ <;> (show max a b = _) <;> omega
  · omega
theorem sp_T_isTrue20 {a b : Int} {h : zH} {post : Int32 → zH → Prop} (hb : sm b) (hl : b = 0 ∨ b = 1) (h0 : v1 20 b = 0 → post 0 h) (h1 : v1 20 b = 1 → post 1 h) : wp_T_isTrue (nI 20) (jL a) (jL b) h post := by
  have s0 : sm 0 := by unfold sm; omega
  unfold wp_T_isTrue b_T_isTrue_135
  rw [← j0, cmp_eq hb s0]
  have e : v1 20 b = 1 - b := rfl
  refine ⟨fun c => absurd c (by decide), fun _ => ⟨fun c => absurd c (by decide), fun _ => ⟨fun c => absurd c (by decide), fun _ => ⟨fun c => absurd c (by decide), fun _ => ⟨fun c => absurd c (by decide), fun _ => ⟨fun c => absurd c (by decide), fun _ => ⟨fun _ => ⟨fun q => ⟨rfl, h0 (by omega)⟩, fun q => ⟨rfl, h1 (by omega)⟩⟩, fun c => absurd rfl c⟩⟩⟩⟩⟩⟩⟩
theorem rem_sm {a b : Int} (ha : wi a) (hb : b ≠ 0) : -2000000000 ≤ a - a.tdiv b * b ∧ a - a.tdiv b * b ≤ 2000000000 := by
  have r := rem_in (A := a) (B := a) (C := b) (D := b) (a := a) (c := b) (by omega) (by omega) (by omega) (by omega) (by omega)
  unfold wi at ha
  by_cases c1 : a < 0
  · rw [if_pos c1, if_neg (show ¬ 0 < a by omega)] at r; omega
  · rw [if_neg c1] at r
    by_cases c2 : 0 < a
    · rw [if_pos c2] at r; omega
    · rw [if_neg c2] at r; omega
theorem sp_T_numberOf {op : Nat} {a b : Int} {h : zH} {post : Int64 → zH → Prop} (ho : (9 ≤ op ∧ op ≤ 13) ∨ op = 23 ∨ op = 24) (ha : wi a) (hb : wi b) (hz : op = 12 ∨ op = 13 → b ≠ 0) (hp : post (jL (v2 op a b)) h) : wp_T_numberOf (nI op) (jL a) (jL b) h post := by
  have s0 : sm 0 := by unfold sm; omega
  have sa := wi_sm ha
  have sb := wi_sm hb
  have L : ∀ d : Nat, d < 2147483648 → (nI op = (no_index (OfNat.ofNat d : Int32)) ↔ op = d) := fun d hd => nI_lit (by omega) hd
  have nz : b ≠ 0 → ¬ jL b = 0 := fun q => by rw [← j0, j_eq sb s0]; exact q
  unfold wp_T_numberOf b_T_numberOf_116 b_T_numberOf_130 b_T_numberOf_148
  rw [L 9 (by decide), L 10 (by decide), L 11 (by decide), L 12 (by decide), L 13 (by decide), L 14 (by decide), L 15 (by decide), L 16 (by decide), L 17 (by decide), L 18 (by decide), L 19 (by decide), L 20 (by decide), L 21 (by decide), L 22 (by decide), L 23 (by decide), L 24 (by decide), L 25 (by decide), L 26 (by decide)]
  refine ⟨fun c => ?_, fun n1 => ⟨fun c => ?_, fun n2 => ⟨fun c => ?_, fun n3 => ⟨fun c => ?_, fun n4 => ⟨fun c => ?_, fun n5 => ⟨fun c => absurd c (by omega), fun n6 => ⟨fun c => absurd c (by omega), fun n7 => ⟨fun c => absurd c (by omega), fun n8 => ⟨fun c => absurd c (by omega), fun n9 => ⟨fun c => absurd c (by omega), fun n10 => ⟨fun c => absurd c (by omega), fun n11 => ⟨fun c => absurd c (by omega), fun n12 => ⟨fun c => absurd c (by omega), fun n13 => ⟨fun c => absurd c (by omega), fun n14 => ⟨fun c => ?_, fun n15 => ⟨fun c => ?_, fun n16 => by omega⟩⟩⟩⟩⟩⟩⟩⟩⟩⟩⟩⟩⟩⟩⟩⟩
  · subst c
    rw [j_add sa sb (by unfold wi at *; unfold sm; omega)]; exact hp
  · subst c
    rw [j_sub sa sb (by unfold wi at *; unfold sm; omega)]; exact hp
  · subst c
    rw [j_mul sa sb (wi_mul ha hb)]; exact hp
  · have z := hz (Or.inl c)
    subst c
    refine ⟨fun _ => ⟨nz z, ?_⟩, fun q => absurd ((cmp_eq sb s0).mp q) z⟩
    rw [j_div sa sb (wi_div ha)]; exact hp
  · have z := hz (Or.inr c)
    subst c
    refine ⟨fun _ => ⟨nz z, ?_⟩, fun q => absurd ((cmp_eq sb s0).mp q) z⟩
    have rs := rem_sm ha z
    have hdm : sm (a.tdiv b * b) := by
      unfold wi at ha
      unfold sm
      omega
    have hr : sm (a - a.tdiv b * b) := by
      unfold sm
      omega
    rw [j_div sa sb (wi_div ha), j_mul (wi_div ha) sb hdm, j_sub sa hdm hr]; exact hp
  · subst c
    rw [j_min sa sb]; exact hp
  · subst c
    rw [j_max sa sb]; exact hp
theorem sp_T_numberOf1 {op : Nat} {a b : Int} {h : zH} {post : Int64 → zH → Prop} (ho : op = 25 ∨ op = 26) (hb : wi b) (hp : post (jL (v1 op b)) h) : wp_T_numberOf (nI op) (jL a) (jL b) h post := by
  have sb := wi_sm hb
  have L : ∀ d : Nat, d < 2147483648 → (nI op = (no_index (OfNat.ofNat d : Int32)) ↔ op = d) := fun d hd => nI_lit (by omega) hd
  unfold wp_T_numberOf
  rw [L 9 (by decide), L 10 (by decide), L 11 (by decide), L 12 (by decide), L 13 (by decide), L 14 (by decide), L 15 (by decide), L 16 (by decide), L 17 (by decide), L 18 (by decide), L 19 (by decide), L 20 (by decide), L 21 (by decide), L 22 (by decide), L 23 (by decide), L 24 (by decide), L 25 (by decide), L 26 (by decide)]
  refine ⟨fun c => absurd c (by omega), fun n1 => ⟨fun c => absurd c (by omega), fun n2 => ⟨fun c => absurd c (by omega), fun n3 => ⟨fun c => absurd c (by omega), fun n4 => ⟨fun c => absurd c (by omega), fun n5 => ⟨fun c => absurd c (by omega), fun n6 => ⟨fun c => absurd c (by omega), fun n7 => ⟨fun c => absurd c (by omega), fun n8 => ⟨fun c => absurd c (by omega), fun n9 => ⟨fun c => absurd c (by omega), fun n10 => ⟨fun c => absurd c (by omega), fun n11 => ⟨fun c => absurd c (by omega), fun n12 => ⟨fun c => absurd c (by omega), fun n13 => ⟨fun c => absurd c (by omega), fun n14 => ⟨fun c => absurd c (by omega), fun n15 => ⟨fun c => absurd c (by omega), fun n16 => ⟨fun c => ?_, fun n17 => ⟨fun c => ?_, fun n18 => by omega⟩⟩⟩⟩⟩⟩⟩⟩⟩⟩⟩⟩⟩⟩⟩⟩⟩⟩
  · subst c
    rw [j_abs sb]; exact hp
  · subst c
    rw [j_neg sb (by unfold sm at *; omega)]; exact hp
