theorem WfPt.vr {vr vr' : Vr} {ps : List Pt} {i : Nat} {p : Pt} (hn : vr.1 ≤ vr'.1) (he : ∀ j, j < vr.1 → vr'.2.1 j = vr.2.1 j ∧ vr'.2.2 j = vr.2.2 j) (h : WfPt vr ps i p) : WfPt vr' ps i p := by
  unfold WfPt at *
  rcases h with w | w | w
  · exact Or.inl w
  · obtain ⟨w1, w2, w3, w4, w5⟩ := w
    exact Or.inr (Or.inl ⟨w1, w2, by omega, by rw [(he _ w3).1]; exact w4, by rw [(he _ w3).2]; exact w5⟩)
  · exact Or.inr (Or.inr w)
theorem Wf.vr {vr vr' : Vr} (hn : vr.1 ≤ vr'.1) (he : ∀ j, j < vr.1 → vr'.2.1 j = vr.2.1 j ∧ vr'.2.2 j = vr.2.2 j) : ∀ {ps : List Pt}, Wf vr ps → Wf vr' ps
  | [], _ => trivial
  | p :: l, h => ⟨Wf.vr hn he h.1, h.2.1.vr hn he, h.2.2⟩
def upD {α : Type} (f : Nat → α) (i : Nat) (x : α) : Nat → α := fun j => if j = i then x else f j
theorem upD_eq {α : Type} {f : Nat → α} {i : Nat} {x : α} : upD f i x i = x := by unfold upD; rw [if_pos rfl]
theorem upD_ne {α : Type} {f : Nat → α} {i j : Nat} {x : α} (h : j ≠ i) : upD f i x j = f j := by unfold upD; rw [if_neg h]
theorem i_lit (x : Int32) (c : Int) (hc : -2147483648 ≤ c ∧ c < 2147483648) : (x < Int32.ofInt c ↔ x.toInt < c) ∧ (x ≤ Int32.ofInt c ↔ x.toInt ≤ c) := by
  rw [Int32.lt_iff_toInt_lt, Int32.le_iff_toInt_le, i3 hc.1 hc.2]
  exact ⟨Iff.rfl, Iff.rfl⟩
set_option maxHeartbeats 1000000 in
theorem c_variable {h : zH} {a b : Int32} {K : Int32 → Int32 → zH → Prop} (hI : Inv h) (hK : ∀ r h', Inv h' → K r r h') : wp_R_variable a b h (fun r1 h1 => wp_M_variable a b h1 (fun r2 h2 => K r1 r2 h2)) := by
  obtain ⟨n, sg, vr, wv, ps, hS⟩ := hI
  obtain ⟨a1, a2, a3, a4, a5, a6, a7, a8, a9, a10, a11, a12, a13⟩ := id hS
  have v20 := a6.2.2.2.1.1
  have ba := i_bnd a
  have bb := i_bnd b
  have m2 : (-2000000000 : Int32) = Int32.ofInt (-2000000000) := rfl
  have p2 : (2000000000 : Int32) = Int32.ofInt 2000000000 := rfl
  have M2 : (-2000000000 : Int64) = jL (-2000000000) := rfl
  have P2 : (2000000000 : Int64) = jL 2000000000 := rfl
  have lt_ab : b < a ↔ b.toInt < a.toInt := Int32.lt_iff_toInt_lt
  have la := (i_lit a (-2000000000) (by omega)).1
  have lb := (i_lit b 2000000000 (by omega)).2
  have refNo : (vr.1 = 20 ∨ b.toInt < a.toInt ∨ a.toInt < -2000000000 ∨ 2000000000 < b.toInt) → wp_M_variable a b h (fun r2 h2 => K (-1) r2 h2) := by
    intro hn
    have fin : ∀ x, K (-1) (-1) (zi h 39 0 x) := fun x => hK _ _ ⟨n, sg, vr, wv, ps, hS.t0⟩
    unfold wp_M_variable b_M_variable_37
    intro h3 g3
    have e1 : h3.1 39 1 = nI vr.1 := by rw [g3]; simp [zi1]; exact a9
    rw [e1, nI_lit (d := 20) (by omega) (by decide), lt_ab, i_j a, i_j b, M2, P2, lg_cmp_lt, lg_cmp_le, j_lt (i_sm a) (by unfold sm; omega), j_le (i_sm b) (by unfold sm; omega), g3]
    exact ⟨fun _ => fin _, fun q1 => ⟨fun _ => fin _, fun q2 => ⟨fun _ => fin _, fun q3 => ⟨fun q4 => by omega, fun _ => fin _⟩⟩⟩⟩
  unfold wp_R_variable wp_V_add b_V_add_26
  rw [a2.1, lit_le_nI (d := 20) (by omega) (by decide), lt_ab, m2, p2, la, lb]
  refine ⟨fun q => refNo (by omega), fun q1 => ⟨fun q => refNo (by omega), fun q2 => ⟨fun q => refNo (by omega), fun q3 => ⟨fun q4 => ?_, fun q => refNo (by omega)⟩⟩⟩⟩
  have hin : vp_in (nI vr.1) 20 := vp_in_nI (by omega) (by decide)
  refine ⟨hin, fun h1 g1 => ?_⟩
  rw [nI_clamp' (by omega)] at g1
  have e1 : h1.1 1 3 = nI vr.1 := by rw [g1]; simp [zi1]; exact a2.1
  rw [e1]
  refine ⟨hin, fun h2 g2 => ?_⟩
  rw [nI_clamp' (by omega)] at g2
  have e2 : h2.1 1 3 = nI vr.1 := by rw [g2]; simp [zi1]; exact e1
  rw [e2]
  refine ⟨hin, fun h3 g3 h4 g4 => ?_⟩
  rw [nI_clamp' (by omega)] at g3
  have e3 : h3.1 1 3 = nI vr.1 := by rw [g3]; simp [zi1]; exact e2
  rw [e3, nI_1] at g4
  have e4 : h4.1 1 3 = nI (vr.1 + 1) := by rw [g4]; simp [zi1]
  rw [e4, nI_pred]
  -- what the variable is worth at first
  have hW : ∃ W : Int, (if a < (if 0 < b then 0 else b) then (if 0 < b then 0 else b) else a) = Int32.ofInt W ∧ a.toInt ≤ W ∧ W ≤ b.toInt ∧ (0 < a.toInt → W = a.toInt) ∧ (a.toInt ≤ 0 → 0 ≤ b.toInt → W = 0) ∧ (a.toInt ≤ 0 → b.toInt < 0 → W = b.toInt) := by
    have z0 : (0 : Int32) = Int32.ofInt 0 := rfl
    have hb0 : (0 : Int32) < b ↔ 0 < b.toInt := by rw [Int32.lt_iff_toInt_lt]; rfl
    have ha0 : a < (0 : Int32) ↔ a.toInt < 0 := by rw [Int32.lt_iff_toInt_lt]; rfl
    have hab : a < b ↔ a.toInt < b.toInt := Int32.lt_iff_toInt_lt
    by_cases c : 0 < b.toInt
    · rw [if_pos (hb0.mpr c)]
      by_cases d : a.toInt < 0
      · rw [if_pos (ha0.mpr d)]
        exact ⟨0, rfl, by omega, by omega, by omega, by omega, by omega⟩
      · rw [if_neg (fun z => d (ha0.mp z))]
        exact ⟨a.toInt, (i_of a).symm, by omega, by omega, by omega, by omega, by omega⟩
    · rw [if_neg (fun z => c (hb0.mp z))]
      by_cases d : a.toInt < b.toInt
      · rw [if_pos (hab.mpr d)]
        exact ⟨b.toInt, (i_of b).symm, by omega, by omega, by omega, by omega, by omega⟩
      · rw [if_neg (fun z => d (hab.mp z))]
        exact ⟨a.toInt, (i_of a).symm, by omega, by omega, by omega, by omega, by omega⟩
  obtain ⟨W, eW, w1, w2, w3, w4, w5⟩ := hW
  rw [eW] at g3
  -- the reference
  have o4 : ∀ c, c ≠ 1 → c ≠ 2 → c ≠ 3 → c ≠ 4 → h4.1 c = h.1 c := by
    intro c n1 n2 n3 n4
    rw [g4, zi_ne n1, g3, zi_ne n4, g2, zi_ne n3, g1, zi_ne n2]
  have r4 : h4.2 = h.2 := by rw [g4, g3, g2, g1]; rfl
  have e39 : h4.1 39 1 = nI vr.1 := by rw [o4 39 (by decide) (by decide) (by decide) (by decide)]; exact a9
  unfold wp_M_variable b_M_variable_37 b_M_variable_84
  intro h5 g5
  have f1 : h5.1 39 1 = nI vr.1 := by rw [g5]; simp [zi1]; exact e39
  rw [f1, nI_lit (d := 20) (by omega) (by decide), lt_ab, i_j a, i_j b, M2, P2, lg_cmp_lt, lg_cmp_le, j_lt (i_sm a) (by unfold sm; omega), j_le (i_sm b) (by unfold sm; omega)]
  refine ⟨fun q => by omega, fun _ => ⟨fun q => by omega, fun _ => ⟨fun q => by omega, fun _ => ⟨fun _ => ⟨hin, fun h6 g6 => ?_⟩, fun q => by omega⟩⟩⟩⟩
  rw [nI_clamp' (by omega)] at g6
  have f2 : h6.1 39 1 = nI vr.1 := by rw [g6]; simp [zi1]; exact f1
  rw [f2]
  refine ⟨hin, fun h7 g7 => ?_⟩
  rw [nI_clamp' (by omega)] at g7
  have f3 : h7.1 39 1 = nI vr.1 := by rw [g7]; simp [zi1]; exact f2
  rw [f3]
  have ha0 : a ≤ (0 : Int32) ↔ a.toInt ≤ 0 := by rw [Int32.le_iff_toInt_le]; rfl
  have hb0 : (0 : Int32) ≤ b ↔ 0 ≤ b.toInt := by rw [Int32.le_iff_toInt_le]; rfl
  have last : ∀ x : Int32, x = Int32.ofInt W → (vp_in (nI vr.1) 20 ∧ ∀ h1 : zH, h1 = zi h7 42 (nI vr.1 : Int32).toNatClampNeg x → (∀ h2 : zH, h2 = zi h1 39 1 ((h1.1 39 1) + 1) → K (nI vr.1) ((h2.1 39 1) - 1) h2)) := by
    intro x hx
    refine ⟨hin, fun h8 g8 h9 g9 => ?_⟩
    rw [nI_clamp' (by omega), hx] at g8
    have f4 : h8.1 39 1 = nI vr.1 := by rw [g8]; simp [zi1]; exact f3
    rw [f4, nI_1] at g9
    have f5 : h9.1 39 1 = nI (vr.1 + 1) := by rw [g9]; simp [zi1]
    rw [f5, nI_pred]
    refine hK _ _ ⟨n, sg, (vr.1 + 1, upD vr.2.1 vr.1 a.toInt, upD vr.2.2 vr.1 b.toInt), upD wv vr.1 W, ps, ?_⟩
    have r9 : h9.2 = h.2 := by rw [g9, g8, g7, g6, g5]; exact r4
    have o9 : ∀ c, c ≠ 1 → c ≠ 2 → c ≠ 3 → c ≠ 4 → c ≠ 39 → c ≠ 40 → c ≠ 41 → c ≠ 42 → h9.1 c = h.1 c := by
      intro c n1 n2 n3 n4 n5 n6 n7 n8
      rw [g9, zi_ne n5, g8, zi_ne n8, g7, zi_ne n7, g6, zi_ne n6, g5, zi_ne n5]
      exact o4 c n1 n2 n3 n4
    have s9 : ∀ j, j ≠ 1 → j ≠ 0 → h9.1 39 j = h.1 39 j := by
      intro j n1 n2
      rw [g9, g8, g7, g6, g5]
      simp [zi1, n1, n2]
      rw [o4 39 (by decide) (by decide) (by decide) (by decide)]
    have c1 : h9.1 1 3 = nI (vr.1 + 1) := by rw [g9, g8, g7, g6, g5]; simp [zi1]; exact e4
    have c2 : ∀ i, h9.1 2 i = if i = vr.1 then a else h.1 2 i := by intro i; rw [g9, g8, g7, g6, g5, g4, g3, g2, g1]; simp [zi1]
    have c3 : ∀ i, h9.1 3 i = if i = vr.1 then b else h.1 3 i := by intro i; rw [g9, g8, g7, g6, g5, g4, g3, g2, g1]; simp [zi1]
    have c4 : ∀ i, h9.1 4 i = if i = vr.1 then Int32.ofInt W else h.1 4 i := by intro i; rw [g9, g8, g7, g6, g5, g4, g3, g2, g1]; simp [zi1]
    have c40 : ∀ i, h9.1 40 i = if i = vr.1 then a else h.1 40 i := by intro i; rw [g9, g8, g7, g6, g5, g4, g3, g2, g1]; simp [zi1]
    have c41 : ∀ i, h9.1 41 i = if i = vr.1 then b else h.1 41 i := by intro i; rw [g9, g8, g7, g6, g5, g4, g3, g2, g1]; simp [zi1]
    have c42 : ∀ i, h9.1 42 i = if i = vr.1 then Int32.ofInt W else h.1 42 i := by intro i; rw [g9, g8, g7, g6, g5, g4, g3, g2, g1]; simp [zi1]
    have k := xTm_ne a4.1
    refine ⟨a1.same (o9 5 (by decide) (by decide) (by decide) (by decide) (by decide) (by decide) (by decide) (by decide)) (o9 6 (by decide) (by decide) (by decide) (by decide) (by decide) (by decide) (by decide) (by decide)), ⟨c1, fun i hi => ?_⟩, fun i hi => ?_, by rw [r9]; exact a4, ?_, ⟨?_, a6.2.1, a6.2.2.1, ⟨by simp only; omega, fun j hj => ?_⟩, fun j hj => ?_⟩, by rw [s9 6 (by decide) (by decide)]; exact a7, fun i hi => by rw [o9 43 (by decide) (by decide) (by decide) (by decide) (by decide) (by decide) (by decide) (by decide)]; exact a8 i hi, f5, fun j hj => ?_, fun i hi => ?_, by rw [s9 23 (by decide) (by decide)]; exact a12, RMt.same (h := h) (fun c i h1 h2 _ => ⟨by rw [o9 c (by omega) (by omega) (by omega) (by omega) (by omega) (by omega) (by omega) (by omega)], by rw [r9]⟩) a13⟩
    · simp only at hi ⊢
      rw [c2, c3]
      by_cases z : i = vr.1
      · rw [if_pos z, if_pos z, z, upD_eq, upD_eq, i_of, i_of]; exact ⟨rfl, rfl⟩
      · rw [if_neg z, if_neg z, upD_ne z, upD_ne z]; exact a2.2 i (by omega)
    · simp only at hi ⊢
      rw [c4]
      by_cases z : i = vr.1
      · rw [if_pos z, z, upD_eq]
      · rw [if_neg z, upD_ne z]; exact a3 i (by omega)
    · rw [r9]
      exact RT.same (h := h) (fun j hj => o9 _ (by omega) (by omega) (by omega) (by omega) (by omega) (by omega) (by omega) (by omega)) a5
    · exact Wf.vr (vr := vr) (by simp only; omega) (fun j hj => ⟨upD_ne (by omega), upD_ne (by omega)⟩) a6.1
    · simp only at hj ⊢
      by_cases z : j = vr.1
      · rw [z, upD_eq, upD_eq]; unfold wi; omega
      · rw [upD_ne z, upD_ne z]; exact a6.2.2.2.1.2 j (by omega)
    · simp only at hj ⊢
      by_cases z : j = vr.1
      · rw [z, upD_eq, upD_eq, upD_eq]; omega
      · rw [upD_ne z, upD_ne z, upD_ne z]; exact a6.2.2.2.2 j (by omega)
    · simp only at hj ⊢
      rw [c40, c41]
      by_cases z : j = vr.1
      · rw [if_pos z, if_pos z, z, upD_eq, upD_eq, i_of, i_of]; exact ⟨rfl, rfl⟩
      · rw [if_neg z, if_neg z, upD_ne z, upD_ne z]; exact a10 j (by omega)
    · simp only at hi ⊢
      rw [c42]
      by_cases z : i = vr.1
      · rw [if_pos z, z, upD_eq]
      · rw [if_neg z, upD_ne z]; exact a11 i (by omega)
  rw [ha0, hb0]
  refine ⟨fun q => ⟨fun q2 => last _ ?_, fun q2 => last _ ?_⟩, fun q => last _ ?_⟩
  · rw [w4 q q2]; rfl
  · rw [w5 q (by omega), i_of]
  · rw [w3 (by omega), i_of]
theorem c_give {h : zH} {a b : Int32} {K : Int32 → Int32 → zH → Prop} (hI : Inv h) (hK : ∀ r h', Inv h' → K r r h') : wp_R_give a b h (fun r1 h1 => wp_M_give a b h1 (fun r2 h2 => K r1 r2 h2)) := by
  obtain ⟨n, sg, vr, wv, ps, hS⟩ := hI
  obtain ⟨a1, a2, a3, a4, a5, a6, a7, a8, a9, a10, a11, a12, a13⟩ := id hS
  have v20 := a6.2.2.2.1.1
  have fin : ∀ r x, K r r (zi h 39 0 x) := fun r x => hK r _ ⟨n, sg, vr, wv, ps, hS.t0⟩
  unfold wp_R_give wp_V_set b_V_set_28
  by_cases c : a < 0
  · unfold wp_V_has b_V_has_22 b_V_has_23
    refine ⟨fun _ => ⟨rfl, fun _ => ⟨rfl, ?_⟩, fun q => absurd rfl q⟩, fun q => absurd c q⟩
    unfold wp_M_give b_M_give_37
    intro h1 g1
    rw [g1]
    exact ⟨fun _ => fin _ _, fun q => absurd c q⟩
  · obtain ⟨i, hi, rfl⟩ := i_nn c
    refine sp_V_has a2.1 v20 hi ?_
    by_cases ci : i < vr.1
    · rw [show decide (i < vr.1) = true by simpa using ci]
      obtain ⟨u1, u2⟩ := a2.2 i ci
      obtain ⟨t1, t2⟩ := a10 i ci
      obtain ⟨x1, x2, x3⟩ := a6.2.2.2.1.2 i ci
      have hin : vp_in (nI i) 20 := vp_in_nI (by omega) (by decide)
      rw [nI_clamp' hi, u1, u2, (i_lit b _ (wi_i32 x1)).1, (i_lit b _ (wi_i32 x2)).2]
      have refNo : (b.toInt < vr.2.1 i ∨ vr.2.2 i < b.toInt) → wp_M_give (nI i) b h (fun r2 h2 => K 0 r2 h2) := by
        intro hn
        unfold wp_M_give b_M_give_37
        intro h1 g1
        have f1 : h1.1 39 1 = nI vr.1 := by rw [g1]; simp [zi1]; exact a9
        have f40 : h1.1 40 i = Int32.ofInt (vr.2.1 i) := by rw [g1, zi_ne (by decide)]; exact t1
        have f41 : h1.1 41 i = Int32.ofInt (vr.2.2 i) := by rw [g1, zi_ne (by decide)]; exact t2
        rw [f1, nI_clamp' hi, f40, f41, (i_lit b _ (wi_i32 x1)).1, (i_lit b _ (wi_i32 x2)).2, nI_leI (by omega) (by omega), g1]
        exact ⟨fun q => absurd q c, fun _ => ⟨fun q => by omega, fun _ => ⟨hin, fun _ => fin _ _, fun q1 => ⟨hin, fun q2 => by omega, fun _ => fin _ _⟩⟩⟩⟩
      refine ⟨fun q => absurd q (by decide), fun _ => ⟨hin, fun q => ⟨rfl, refNo (Or.inl q)⟩, fun q1 => ⟨hin, fun q2 => ⟨hin, fun h3 g3 => ⟨rfl, ?_⟩⟩, fun q => ⟨rfl, refNo (by omega)⟩⟩⟩⟩
      unfold wp_M_give b_M_give_37
      intro h4 g4
      have f1 : h4.1 39 1 = nI vr.1 := by rw [g4, g3]; simp [zi1]; exact a9
      have f40 : h4.1 40 i = Int32.ofInt (vr.2.1 i) := by rw [g4, g3, zi_ne (by decide), zi_ne (by decide)]; exact t1
      have f41 : h4.1 41 i = Int32.ofInt (vr.2.2 i) := by rw [g4, g3, zi_ne (by decide), zi_ne (by decide)]; exact t2
      rw [f1, nI_clamp' hi, f40, f41, (i_lit b _ (wi_i32 x1)).1, (i_lit b _ (wi_i32 x2)).2, nI_leI (by omega) (by omega)]
      refine ⟨fun q => absurd q c, fun _ => ⟨fun q => by omega, fun _ => ⟨hin, fun q => absurd q q1, fun _ => ⟨hin, fun _ => ⟨hin, fun h5 g5 => ?_⟩, fun q => absurd q2 q⟩⟩⟩⟩
      refine hK _ _ ⟨n, sg, vr, upD wv i b.toInt, ps, ?_⟩
      have r5 : h5.2 = h.2 := by rw [g5, g4, g3]; rfl
      have o5 : ∀ c, c ≠ 4 → c ≠ 39 → c ≠ 42 → h5.1 c = h.1 c := by
        intro c n1 n2 n3
        rw [g5, zi_ne n3, g4, zi_ne n2, g3, zi_ne n1]
      have s5 : ∀ j, j ≠ 0 → h5.1 39 j = h.1 39 j := by
        intro j n1
        rw [g5, g4, g3]; simp [zi1, n1]
      have c4 : ∀ j, h5.1 4 j = if j = i then b else h.1 4 j := by intro j; rw [g5, g4, g3]; simp [zi1]
      have c42 : ∀ j, h5.1 42 j = if j = i then b else h.1 42 j := by intro j; rw [g5, g4, g3]; simp [zi1]
      have k := xTm_ne a4.1
      refine ⟨a1.same (o5 5 (by decide) (by decide) (by decide)) (o5 6 (by decide) (by decide) (by decide)), ?_, fun j hj => ?_, by rw [r5]; exact a4, ?_, ⟨a6.1, a6.2.1, a6.2.2.1, a6.2.2.2.1, fun j hj => ?_⟩, by rw [s5 6 (by decide)]; exact a7, fun j hj => by rw [o5 43 (by decide) (by decide) (by decide)]; exact a8 j hj, by rw [s5 1 (by decide)]; exact a9, fun j hj => by rw [o5 40 (by decide) (by decide) (by decide), o5 41 (by decide) (by decide) (by decide)]; exact a10 j hj, fun j hj => ?_, by rw [s5 23 (by decide)]; exact a12, RMt.same (h := h) (fun c i h1 h2 _ => ⟨by rw [o5 c (by omega) (by omega) (by omega)], by rw [r5]⟩) a13⟩
      · unfold RV; rw [o5 1 (by decide) (by decide) (by decide), o5 2 (by decide) (by decide) (by decide), o5 3 (by decide) (by decide) (by decide)]; exact a2
      · rw [c4]
        by_cases z : j = i
        · rw [if_pos z, z, upD_eq, i_of]
        · rw [if_neg z, upD_ne z]; exact a3 j hj
      · rw [r5]
        exact RT.same (h := h) (fun j hj => o5 _ (by omega) (by omega) (by omega)) a5
      · by_cases z : j = i
        · rw [z, upD_eq]; omega
        · rw [upD_ne z]; exact a6.2.2.2.2 j hj
      · rw [c42]
        by_cases z : j = i
        · rw [if_pos z, z, upD_eq, i_of]
        · rw [if_neg z, upD_ne z]; exact a11 j hj
    · rw [show decide (i < vr.1) = false by simp; omega]
      refine ⟨fun _ => ⟨rfl, ?_⟩, fun q => absurd rfl q⟩
      unfold wp_M_give b_M_give_37
      intro h1 g1
      have f1 : h1.1 39 1 = nI vr.1 := by rw [g1]; simp [zi1]; exact a9
      rw [f1, nI_leI (by omega) (by omega), g1]
      exact ⟨fun _ => fin _ _, fun _ => ⟨fun _ => fin _ _, fun q => by omega⟩⟩
