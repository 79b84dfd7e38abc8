theorem mA_m1 : ¬ (0 : Int32) ≤ -1 := by decide
theorem le_nI {n : Nat} (h : n < 2147483648) : (0 : Int32) ≤ nI n := (lit_le_nI (d := 0) h (by decide)).mpr (by omega)
theorem sp_M_truth {b : Bool} {h : zH} {post : Int64 → zH → Prop} (hp : post (jL (if b = true then 1 else 0)) h) : wp_M_truth (b01 b) h post := by
  unfold wp_M_truth b_M_truth_9
  cases b
  · exact ⟨fun _ => hp, fun q => absurd rfl q⟩
  · exact ⟨fun q => absurd q (by decide), fun _ => hp⟩
/-- the choice by the operator's code, with what its parts are worth -/
def RefW (p : Pt) (wv : Nat → Int) (f : Nat → Int) (a b : Int) : Prop := (pOp p = 2 ∨ pOp p = 3) ∨ ((pOp p = 20 ∨ pOp p = 25 ∨ pOp p = 26) ∧ a = f (pA p)) ∨ ((two (pOp p) ∨ pOp p = 7) ∧ a = f (pA p) ∧ b = f (pB p))
set_option maxHeartbeats 2000000 in
theorem sp_rw54 {h : zH} {j : Nat} {vr : Vr} {wv : Nat → Int} {ps : List Pt} {a b : Int} {post : Int64 → zH → Prop} (c : VC vr wv ps) (hr : RMt h 100 ps) (hj : j < ps.length) (hw : ∀ i, i < vr.1 → h.1 42 i = Int32.ofInt (wv i)) (hv : ∀ x, x < j → h.2.1 58 x = jL (vget wv ps x)) (hab : RefW (pget ps j) wv (vget wv ps) a b) (hp : post (jL (vget wv ps j)) h) : b_M_worthOf_54 post (nI (100 + j)) (jL a) (jL b) h := by
  have hl := c.2.2.1
  obtain ⟨p1, p2, p3, p4, p5, p6, p7, p8, p9, p10, p11⟩ := hr j hj
  have wf := c.1.at j hj
  have ev := vget_at (wv := wv) c.1 j hj
  rw [ev] at hp
  unfold vPt at hp
  have hop : pOp (pget ps j) < 28 := by
    rcases wf with w | w | w | w | w
    · omega
    · omega
    · omega
    · have := w.1; unfold two at this; omega
    · omega
  have hin : vp_in (nI (100 + j)) 200 := vp_in_nI (by omega) (by decide)
  have l2 : nI (rop (pOp (pget ps j))) = 2 ↔ pOp (pget ps j) = 2 := ropI 2 hop
  have l3 : nI (rop (pOp (pget ps j))) = 3 ↔ pOp (pget ps j) = 3 := ropI 3 hop
  have l23 : nI (rop (pOp (pget ps j))) = 4 ↔ pOp (pget ps j) = 23 := ropI 23 hop
  have l24 : nI (rop (pOp (pget ps j))) = 5 ↔ pOp (pget ps j) = 24 := ropI 24 hop
  have l25 : nI (rop (pOp (pget ps j))) = 6 ↔ pOp (pget ps j) = 25 := ropI 25 hop
  have l20 : nI (rop (pOp (pget ps j))) = 33 ↔ pOp (pget ps j) = 20 := ropI 20 hop
  have l13 : nI (rop (pOp (pget ps j))) = 37 ↔ pOp (pget ps j) = 13 := ropI 13 hop
  have l11 : nI (rop (pOp (pget ps j))) = 42 ↔ pOp (pget ps j) = 11 := ropI 11 hop
  have l9 : nI (rop (pOp (pget ps j))) = 43 ↔ pOp (pget ps j) = 9 := ropI 9 hop
  have l10 : nI (rop (pOp (pget ps j))) = 45 ↔ pOp (pget ps j) = 10 := ropI 10 hop
  have l12 : nI (rop (pOp (pget ps j))) = 47 ↔ pOp (pget ps j) = 12 := ropI 12 hop
  have l14 : nI (rop (pOp (pget ps j))) = 60 ↔ pOp (pget ps j) = 14 := ropI 14 hop
  have l16 : nI (rop (pOp (pget ps j))) = 62 ↔ pOp (pget ps j) = 16 := ropI 16 hop
  have l26 : nI (rop (pOp (pget ps j))) = 100 ↔ pOp (pget ps j) = 26 := ropI 26 hop
  have l15 : nI (rop (pOp (pget ps j))) = 200 ↔ pOp (pget ps j) = 15 := ropI 15 hop
  have l17 : nI (rop (pOp (pget ps j))) = 201 ↔ pOp (pget ps j) = 17 := ropI 17 hop
  have l18 : nI (rop (pOp (pget ps j))) = 202 ↔ pOp (pget ps j) = 18 := ropI 18 hop
  have l19 : nI (rop (pOp (pget ps j))) = 203 ↔ pOp (pget ps j) = 19 := ropI 19 hop
  have l21 : nI (rop (pOp (pget ps j))) = 204 ↔ pOp (pget ps j) = 21 := ropI 21 hop
  have l22 : nI (rop (pOp (pget ps j))) = 205 ↔ pOp (pget ps j) = 22 := ropI 22 hop
  unfold b_M_worthOf_54
  rw [nI_clamp' (show 100 + j < 2147483648 by omega), p1, l2, l3, l23, l24, l25, l20, l13, l11, l9, l10, l12, l14, l16, l26, l15, l17, l18, l19, l21, l22]
  refine ⟨hin, ?_⟩
  generalize hO : pOp (pget ps j) = op at *
  have s0 : sm 0 := by unfold sm; omega
  rcases wf with w | w | w | w | w
  · have w1 := w.1
    rw [hO] at w1
    rw [if_pos w1] at hp
    rw [p10 w1]
    exact ⟨fun _ => ⟨hin, hp⟩, fun q => absurd w1 q⟩
  · obtain ⟨w1, w2, w3, w4, w5⟩ := w
    rw [hO] at w1
    rw [if_neg (by omega), if_pos w1] at hp
    have v20 := c.2.2.2.1.1
    have hwi : wi (wv (pC (pget ps j))) := by
      have h1 := c.2.2.2.1.2 _ w3
      have h2 := c.2.2.2.2 _ w3
      unfold wi at *
      omega
    refine ⟨fun q => by omega, fun _ => ⟨fun _ => ⟨hin, ?_⟩, fun q => absurd w1 q⟩⟩
    rw [p11 w1, j_nI (by omega), nI_clamp' (by omega), hw _ w3, i2j hwi]
    exact ⟨vp_in_nI (by omega) (by decide), hp⟩
  · obtain ⟨w1, w2, w3, w4, w5⟩ := w
    rw [hO] at w1
    have wa := c.w2 (i := pA (pget ps j)) (by omega)
    have ea : a = vget wv ps (pA (pget ps j)) := by
      rcases hab with z | z | z
      · omega
      · exact z.2
      · have := z.1; unfold two at this; omega
    rw [← ea] at wa hp
    have sa := wi_sm wa
    rw [if_neg (by omega), if_neg (by omega), if_neg (by omega), if_pos w1] at hp
    rcases w1 with e | e | e
    · subst e
      refine ⟨fun q => by omega, fun _ => ⟨fun q => by omega, fun _ => ⟨fun q => by omega, fun _ => ⟨fun q => by omega, fun _ => ⟨fun q => by omega, fun _ => ⟨fun _ => ?_, fun q => absurd rfl q⟩⟩⟩⟩⟩⟩
      rw [← j1, j_sub (by unfold sm; omega) sa (by unfold wi at wa; unfold sm; omega)]
      exact hp
    · subst e
      refine ⟨fun q => by omega, fun _ => ⟨fun q => by omega, fun _ => ⟨fun q => by omega, fun _ => ⟨fun q => by omega, fun _ => ⟨fun _ => sp_M_size sa hp, fun q => absurd rfl q⟩⟩⟩⟩⟩
    · subst e
      refine ⟨fun q => by omega, fun _ => ⟨fun q => by omega, fun _ => ⟨fun q => by omega, fun _ => ⟨fun q => by omega, fun _ => ⟨fun q => by omega, fun _ => ⟨fun q => by omega, fun _ => ⟨fun q => by omega, fun _ => ⟨fun q => by omega, fun _ => ⟨fun q => by omega, fun _ => ⟨fun q => by omega, fun _ => ⟨fun q => by omega, fun _ => ⟨fun q => by omega, fun _ => ⟨fun q => by omega, fun _ => ⟨fun _ => ?_, fun q => absurd rfl q⟩⟩⟩⟩⟩⟩⟩⟩⟩⟩⟩⟩⟩⟩
      rw [j_neg sa (by unfold sm at *; omega)]
      exact hp
  · obtain ⟨w1, w2, w3, w4, w5, w6, w7⟩ := w
    rw [hO] at w1 w4 w5
    have wt := w1
    unfold two at wt
    have wa := c.w2 (i := pA (pget ps j)) (by omega)
    have wb := c.w2 (i := pB (pget ps j)) (by omega)
    have vi := val_in c.2.2.2.2 c.1 _ (show pB (pget ps j) < ps.length by omega)
    have eab : a = vget wv ps (pA (pget ps j)) ∧ b = vget wv ps (pB (pget ps j)) := by
      rcases hab with z | z | z
      · omega
      · omega
      · exact z.2
    rw [← eab.1, ← eab.2] at hp
    rw [← eab.1] at wa
    rw [← eab.2] at wb vi
    have sa := wi_sm wa
    have sb := wi_sm wb
    have bz : op = 12 ∨ op = 13 → b ≠ 0 := fun q z => w5 ⟨q, by omega, by omega⟩
    have nz : b ≠ 0 → ¬ jL b = 0 := fun q => by rw [← j0, j_eq sb s0]; exact q
    rw [if_neg (by omega), if_neg (by omega), if_neg (by omega), if_neg (by omega)] at hp
    unfold b_M_worthOf_316 b_M_worthOf_332 b_M_worthOf_348 b_M_worthOf_364 b_M_worthOf_380 b_M_worthOf_396
    have tr : ∀ (P : Prop) [Decidable P], post (jL (if P then 1 else 0)) h → (P → wp_M_truth 1 h (fun r h2 => post r h2)) ∧ (¬ P → wp_M_truth 0 h (fun r h2 => post r h2)) := by
      intro P _ hq
      refine ⟨fun q => sp_M_truth (b := true) ?_, fun q => sp_M_truth (b := false) ?_⟩
      · rw [if_pos q] at hq; exact hq
      · rw [if_neg q] at hq; exact hq
    rw [lg_cmp_ge, lg_cmp_gt, lg_cmp_le, lg_cmp_lt, cmp_eq sa sb, j_le sb sa, j_lt sb sa, j_le sa sb, j_lt sa sb]
    refine ⟨fun q => by omega, fun _ => ⟨fun q => by omega, fun _ => ⟨fun q => ?_, fun _ => ⟨fun q => ?_, fun _ => ⟨fun q => by omega, fun _ => ⟨fun q => by omega, fun _ => ⟨fun q => ?_, fun _ => ⟨fun q => ?_, fun _ => ⟨fun q => ?_, fun _ => ⟨fun q => ?_, fun _ => ⟨fun q => ?_, fun _ => ⟨fun q => ?_, fun _ => ⟨fun q => ?_, fun _ => ⟨fun q => by omega, fun _ => ⟨fun q => ?_, fun _ => ⟨fun q => ?_, fun _ => ⟨fun q => ?_, fun _ => ⟨fun q => ?_, fun _ => ⟨fun q => ?_, fun _ => ⟨fun q => ?_, fun _ => by omega⟩⟩⟩⟩⟩⟩⟩⟩⟩⟩⟩⟩⟩⟩⟩⟩⟩⟩⟩⟩
    · subst q; exact sp_M_lesser sa sb hp
    · subst q; exact sp_M_greater sa sb hp
    · have z := bz (Or.inr q)
      subst q
      have rs := rem_sm wa z
      have hdm : sm (a.tdiv b * b) := by
        unfold wi at wa
        unfold sm
        omega
      rw [j_div sa sb (wi_div wa), j_mul (wi_div wa) sb hdm, j_sub sa hdm (by unfold sm; omega)]
      exact ⟨nz z, hp⟩
    · subst q; rw [j_mul sa sb (wi_mul wa wb)]; exact hp
    · subst q; rw [j_add sa sb (by unfold wi at *; unfold sm; omega)]; exact hp
    · subst q; rw [j_sub sa sb (by unfold wi at *; unfold sm; omega)]; exact hp
    · have z := bz (Or.inl q)
      subst q
      rw [j_div sa sb (wi_div wa)]
      exact ⟨nz z, hp⟩
    · subst q
      have t := tr (a < b) hp
      exact ⟨fun z => t.2 (by omega), fun z => t.1 (by omega)⟩
    · subst q
      have t := tr (b < a) hp
      exact ⟨fun z => t.2 (by omega), fun z => t.1 (by omega)⟩
    · subst q
      have t := tr (a ≤ b) hp
      exact ⟨fun z => t.2 (by omega), fun z => t.1 (by omega)⟩
    · subst q
      have t := tr (b ≤ a) hp
      exact ⟨fun z => t.2 (by omega), fun z => t.1 (by omega)⟩
    · subst q
      have t := tr (a = b) hp
      exact ⟨fun z => t.2 z, fun z => t.1 z⟩
    · subst q
      have hp' : post (jL (if ¬ a = b then 1 else 0)) h := by
        have e : v2 19 a b = (if ¬ a = b then 1 else 0) := by
          show (if a = b then (0 : Int) else 1) = _
          by_cases z : a = b
          · rw [if_pos z, if_neg (fun y => y z)]
          · rw [if_neg z, if_pos z]
        rw [e] at hp; exact hp
      have t := tr (¬ a = b) hp'
      exact ⟨fun z => t.2 (fun y => y z), fun z => t.1 z⟩
    · subst q; rw [j_mul sa sb (wi_mul wa wb)]; exact hp
    · subst q; exact sp_M_greater sa sb hp
  · obtain ⟨w1, w2, w3, w4, w5, w6, w7, w8, w9⟩ := w
    rw [hO] at w1
    have t := c.t01 (i := pA (pget ps j)) (by omega) w5
    have wa := c.w2 (i := pA (pget ps j)) (by omega)
    have eab : a = vget wv ps (pA (pget ps j)) ∧ b = vget wv ps (pB (pget ps j)) := by
      rcases hab with z | z | z
      · omega
      · omega
      · exact z.2
    rw [← eab.1, ← eab.2] at hp
    rw [← eab.1] at wa t
    rw [if_neg (by omega), if_neg (by omega), if_pos w1] at hp
    have e8 : mC (pget ps j) = nI (pC (pget ps j)) := by unfold mC; rw [if_pos (by omega)]
    subst w1
    unfold b_M_worthOf_434
    rw [p8, e8, nI_clamp' (by omega), hv _ w4, ← j1, cmp_eq (wi_sm wa) (show sm 1 by unfold sm; omega)]
    refine ⟨fun q => by omega, fun _ => ⟨fun q => by omega, fun _ => ⟨fun q => by omega, fun _ => ⟨fun q => by omega, fun _ => ⟨fun q => by omega, fun _ => ⟨fun q => by omega, fun _ => ⟨fun q => by omega, fun _ => ⟨fun q => by omega, fun _ => ⟨fun q => by omega, fun _ => ⟨fun q => by omega, fun _ => ⟨fun q => by omega, fun _ => ⟨fun q => by omega, fun _ => ⟨fun q => by omega, fun _ => ⟨fun q => by omega, fun _ => ⟨fun q => by omega, fun _ => ⟨fun q => by omega, fun _ => ⟨fun q => by omega, fun _ => ⟨fun q => by omega, fun _ => ⟨fun q => by omega, fun _ => ⟨fun q => by omega, fun _ => ⟨fun q => ⟨hin, vp_in_nI (by omega) (by decide), ?_⟩, fun q => ?_⟩⟩⟩⟩⟩⟩⟩⟩⟩⟩⟩⟩⟩⟩⟩⟩⟩⟩⟩⟩⟩
    · rw [if_neg q] at hp; exact hp
    · rw [if_pos q] at hp; exact hp
theorem sp_M_worthOf {h : zH} {j : Nat} {vr : Vr} {wv : Nat → Int} {ps : List Pt} {post : Int64 → zH → Prop} (c : VC vr wv ps) (hr : RMt h 100 ps) (hj : j < ps.length) (hw : ∀ i, i < vr.1 → h.1 42 i = Int32.ofInt (wv i)) (hv : ∀ x, x < j → h.2.1 58 x = jL (vget wv ps x)) (hp : post (jL (vget wv ps j)) h) : wp_M_worthOf (nI j) h post := by
  have hl := c.2.2.1
  obtain ⟨p1, p2, p3, p4, p5, p6, p7, p8, p9, p10, p11⟩ := hr j hj
  have wf := c.1.at j hj
  have hin : vp_in (nI (100 + j)) 200 := vp_in_nI (by omega) (by decide)
  have go := fun (a b : Int) (hab : RefW (pget ps j) wv (vget wv ps) a b) => sp_rw54 (a := a) (b := b) c hr hj hw hv hab hp
  unfold wp_M_worthOf b_M_worthOf_29
  rw [show (100 : Int32) + nI j = nI (100 + j) from nI_add 100 j, nI_clamp' (show 100 + j < 2147483648 by omega), p6, p7]
  have leaf : (pOp (pget ps j) = 2 ∨ pOp (pget ps j) = 3) → mA (pget ps j) = -1 ∧ mB (pget ps j) = -1 := by
    intro z
    unfold mA mB
    rw [if_pos z, if_pos (by omega)]
    exact ⟨rfl, rfl⟩
  have doneLeaf : (pOp (pget ps j) = 2 ∨ pOp (pget ps j) = 3) → (vp_in (nI (100 + j)) 200 ∧ ((0 ≤ mA (pget ps j) → (vp_in (nI (100 + j)) 200 ∧ (vp_in (mA (pget ps j)) 100 ∧ (vp_in (nI (100 + j)) 200 ∧ ((0 ≤ mB (pget ps j) → (vp_in (nI (100 + j)) 200 ∧ (vp_in (mB (pget ps j)) 100 ∧ b_M_worthOf_54 post (nI (100 + j)) (h.2.1 58 (mA (pget ps j)).toNatClampNeg) (h.2.1 58 (mB (pget ps j)).toNatClampNeg) h))) ∧ (¬ 0 ≤ mB (pget ps j) → b_M_worthOf_54 post (nI (100 + j)) (h.2.1 58 (mA (pget ps j)).toNatClampNeg) 0 h)))))) ∧ (¬ 0 ≤ mA (pget ps j) → (vp_in (nI (100 + j)) 200 ∧ ((0 ≤ mB (pget ps j) → (vp_in (nI (100 + j)) 200 ∧ (vp_in (mB (pget ps j)) 100 ∧ b_M_worthOf_54 post (nI (100 + j)) 0 (h.2.1 58 (mB (pget ps j)).toNatClampNeg) h))) ∧ (¬ 0 ≤ mB (pget ps j) → b_M_worthOf_54 post (nI (100 + j)) 0 0 h)))))) := by
    intro z
    obtain ⟨e1, e2⟩ := leaf z
    rw [e1, e2]
    exact ⟨hin, fun q => absurd q mA_m1, fun _ => ⟨hin, fun q => absurd q mA_m1, fun _ => go 0 0 (Or.inl z)⟩⟩
  rcases wf with w | w | w | w | w
  · exact doneLeaf (Or.inl w.1)
  · exact doneLeaf (Or.inr w.1)
  · have e1 : mA (pget ps j) = nI (pA (pget ps j)) := mA_op (by omega)
    have e2 : mB (pget ps j) = -1 := by unfold mB; rw [if_pos (by omega)]
    rw [e1, e2, nI_clamp' (by omega), hv _ w.2.1]
    exact ⟨hin, fun _ => ⟨hin, vp_in_nI (by omega) (by decide), hin, fun q => absurd q mA_m1, fun _ => go _ 0 (Or.inr (Or.inl ⟨w.1, rfl⟩))⟩, fun q => absurd (le_nI (by omega)) q⟩
  · have wt := w.1
    unfold two at wt
    have e1 : mA (pget ps j) = nI (pA (pget ps j)) := mA_op (by omega)
    have e2 : mB (pget ps j) = nI (pB (pget ps j)) := by unfold mB; rw [if_neg (by omega)]
    rw [e1, e2, nI_clamp' (by omega), nI_clamp' (by omega), hv _ w.2.1, hv _ w.2.2.1]
    exact ⟨hin, fun _ => ⟨hin, vp_in_nI (by omega) (by decide), hin, fun _ => ⟨hin, vp_in_nI (by omega) (by decide), go _ _ (Or.inr (Or.inr ⟨Or.inl w.1, rfl, rfl⟩))⟩, fun q => absurd (le_nI (by omega)) q⟩, fun q => absurd (le_nI (by omega)) q⟩
  · have e1 : mA (pget ps j) = nI (pA (pget ps j)) := mA_op (by omega)
    have e2 : mB (pget ps j) = nI (pB (pget ps j)) := by unfold mB; rw [if_neg (by omega)]
    rw [e1, e2, nI_clamp' (by omega), nI_clamp' (by omega), hv _ w.2.1, hv _ w.2.2.1]
    exact ⟨hin, fun _ => ⟨hin, vp_in_nI (by omega) (by decide), hin, fun _ => ⟨hin, vp_in_nI (by omega) (by decide), go _ _ (Or.inr (Or.inr ⟨Or.inr w.1, rfl, rfl⟩))⟩, fun q => absurd (le_nI (by omega)) q⟩, fun q => absurd (le_nI (by omega)) q⟩
theorem sp_mv {i : Nat} {vr : Vr} {wv : Nat → Int} {ps : List Pt} {post : Int64 → zH → Prop} (c : VC vr wv ps) (hi : i < ps.length) : ∀ (m j : Nat) (h : zH), i + 1 - j ≤ m → j ≤ i + 1 → RMt h 100 ps → (∀ x, x < vr.1 → h.1 42 x = Int32.ofInt (wv x)) → (∀ x, x < j → h.2.1 58 x = jL (vget wv ps x)) → (∀ h', h'.1 = h.1 → h'.2.2 = h.2.2 → (∀ q, q ≠ 58 → h'.2.1 q = h.2.1 q) → post (jL (vget wv ps i)) h') → b_M_value_32 post (m + 1) (nI i) (nI j) h := by
  have hl := c.2.2.1
  intro m
  induction m with
  | zero =>
    intro j h hm hj hr hw hv hq
    unfold b_M_value_32
    rw [nI_ltI (by omega) (by omega), nI_clamp' (show i < 2147483648 by omega), hv i (by omega)]
    exact ⟨fun _ => ⟨vp_in_nI (by omega) (by decide), hq h rfl rfl (fun _ _ => rfl)⟩, fun q => absurd (by omega) q⟩
  | succ m ih =>
    intro j h hm hj hr hw hv hq
    unfold b_M_value_32
    rw [nI_ltI (by omega) (by omega)]
    refine ⟨fun q => ⟨vp_in_nI (by omega) (by decide), ?_⟩, fun q => sp_M_worthOf c hr (by omega) hw hv ⟨vp_in_nI (by omega) (by decide), fun h7 g7 => ?_⟩⟩
    · rw [nI_clamp' (show i < 2147483648 by omega), hv i (by omega)]; exact hq h rfl rfl (fun _ _ => rfl)
    · rw [nI_clamp' (by omega)] at g7
      rw [nI_1]
      have e1 : h7.1 = h.1 := by rw [g7]; rfl
      have e2 : h7.2.2 = h.2.2 := by rw [g7]; rfl
      have e3 : ∀ q, q ≠ 58 → h7.2.1 q = h.2.1 q := fun q hq9 => by rw [g7]; exact zl_ne hq9
      refine ih (j + 1) h7 (by omega) (by omega) (RMt.same (h := h) (fun c x h1 h2 _ => ⟨by rw [e1], by rw [e3 c (by omega)]⟩) hr) (fun x hx => by rw [e1]; exact hw x hx) (fun x hx => ?_) (fun h' w1 w2 w3 => hq h' (w1.trans e1) (w2.trans e2) (fun q hq9 => (w3 q hq9).trans (e3 q hq9)))
      rw [g7, zl2]
      by_cases cx : x = j
      · rw [if_pos ⟨rfl, cx⟩, cx]
      · rw [if_neg (fun z => cx z.2)]; exact hv x (by omega)
