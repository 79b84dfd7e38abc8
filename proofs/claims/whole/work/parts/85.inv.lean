/-! BOTH TOGETHER: what holds between the calls -/
def InvS (h : zH) (n : Nat) (sg : Nat → Nat) (vr : Vr) (wv : Nat → Int) (ps : List Pt) : Prop :=
  RS h sg n ∧ RV h vr ∧ (∀ i, i < vr.1 → h.1 4 i = Int32.ofInt (wv i)) ∧ (xTm (h.2.2 0 3) ∧ xTm (h.2.2 0 4) ∧ h.2.2 0 3 ≠ h.2.2 0 4) ∧ RT h (h.2.2 0 3) ps ∧ VC vr wv ps ∧
  h.1 39 6 = nI n ∧ (∀ i, i < n → h.1 43 i = nI (sg i)) ∧ h.1 39 1 = nI vr.1 ∧ RVm h vr ∧ (∀ i, i < vr.1 → h.1 42 i = Int32.ofInt (wv i)) ∧ h.1 39 23 = nI ps.length ∧ RMt h 100 ps
def Inv (h : zH) : Prop := ∃ n sg vr wv ps, InvS h n sg vr wv ps
theorem xTm_ne {k : Nat} (hk : xTm k) : k ≠ 39 ∧ k + 10 ≤ 28 ∧ 7 ≤ k := by rcases hk with rfl | rfl <;> omega
theorem InvS.q {h h' : zH} {n : Nat} {sg : Nat → Nat} {vr : Vr} {wv : Nat → Int} {ps : List Pt} (e1 : ∀ c i, ¬ (c = 39 ∧ i = 0) → h'.1 c i = h.1 c i) (e2 : ∀ c, 44 ≤ c → c ≤ 53 → h'.2.1 c = h.2.1 c) (e3 : h'.2.2 = h.2.2) (a : InvS h n sg vr wv ps) : InvS h' n sg vr wv ps := by
  obtain ⟨a1, a2, a3, a4, a5, a6, a7, a8, a9, a10, a11, a12, a13⟩ := a
  have ec : ∀ c, c ≠ 39 → h'.1 c = h.1 c := fun c hc => funext fun i => e1 c i (fun z => hc z.1)
  have k := xTm_ne a4.1
  refine ⟨a1.same (ec 5 (by decide)) (ec 6 (by decide)), ?_, fun i hi => by rw [ec 4 (by decide)]; exact a3 i hi, by rw [e3]; exact a4, ?_, a6, by rw [e1 39 6 (by omega)]; exact a7, fun i hi => by rw [ec 43 (by decide)]; exact a8 i hi, by rw [e1 39 1 (by omega)]; exact a9, fun j hj => by rw [ec 40 (by decide), ec 41 (by decide)]; exact a10 j hj, fun i hi => by rw [ec 42 (by decide)]; exact a11 i hi, by rw [e1 39 23 (by omega)]; exact a12, RMt.same (h := h) (fun c i h1 h2 _ => ⟨by rw [ec c (by omega)], by rw [e2 c h1 h2]⟩) a13⟩
  · unfold RV; rw [ec 1 (by decide), ec 2 (by decide), ec 3 (by decide)]; exact a2
  · rw [e3]; exact RT.same (h := h) (fun j hj => ec _ (by omega)) a5
theorem InvS.t0 {h : zH} {n : Nat} {sg : Nat → Nat} {vr : Vr} {wv : Nat → Int} {ps : List Pt} {x : Int32} (a : InvS h n sg vr wv ps) : InvS (zi h 39 0 x) n sg vr wv ps := InvS.q (h := h) (fun c i hc => by rw [zi1, if_neg hc]) (fun _ _ _ => rfl) rfl a
theorem i_nn {x : Int32} (h : ¬ x < 0) : ∃ i : Nat, i < 2147483648 ∧ x = nI i := by
  refine ⟨x.toNatClampNeg, ?_, ?_⟩
  · have := Int32.toInt_lt x
    have h2 : (x.toNatClampNeg : Int) = max x.toInt 0 := by
      show ((x.toInt.toNat : Nat) : Int) = max x.toInt 0
      omega
    simp at this
    omega
  · have h0 : 0 ≤ x.toInt := by
      rw [Int32.lt_iff_toInt_lt] at h
      have : (0 : Int32).toInt = 0 := rfl
      omega
    apply Int32.toInt_inj.mp
    have hb := Int32.toInt_lt x
    simp at hb
    have e : nI x.toNatClampNeg = Int32.ofInt (x.toNatClampNeg : Int) := i_nat.symm
    have h2 : (x.toNatClampNeg : Int) = x.toInt := by
      show ((x.toInt.toNat : Nat) : Int) = x.toInt
      omega
    rw [e, h2, i3 (by omega) (by omega)]
theorem i_bnd (x : Int32) : -2147483648 ≤ x.toInt ∧ x.toInt < 2147483648 := by
  have h1 := Int32.toInt_lt x
  have h2 := Int32.le_toInt x
  simp at h1 h2
  omega
theorem i_of (x : Int32) : Int32.ofInt x.toInt = x := by
  apply Int32.toInt_inj.mp
  have := i_bnd x
  rw [i3 (by omega) (by omega)]
theorem i_j (x : Int32) : x.toInt64 = jL x.toInt := by
  have := i_bnd x
  exact j_of (by unfold sm; omega) (Int32.toInt_toInt64 x)
theorem i_sm (x : Int32) : sm x.toInt := by
  have := i_bnd x
  unfold sm; omega
theorem c_part {h : zH} {a b : Int32} {K : Int32 → Int32 → zH → Prop} (hI : Inv h) (hK : ∀ r h', Inv h' → K r r h') : wp_R_part a b h (fun r1 h1 => wp_M_part a b h1 (fun r2 h2 => K r1 r2 h2)) := by
  obtain ⟨n, sg, vr, wv, ps, hS⟩ := hI
  obtain ⟨a1, a2, a3, a4, a5, a6, a7, a8, a9, a10, a11, a12, a13⟩ := id hS
  have hl := a6.2.2.1
  have fin : ∀ r x, K r r (zi h 39 0 x) := fun r x => hK r _ ⟨n, sg, vr, wv, ps, hS.t0⟩
  have no : ∀ (r : Int32), (a < 0 ∨ ∃ i, i < 2147483648 ∧ a = nI i ∧ ps.length ≤ i) → r = -1 → wp_M_part a b h (fun r2 h2 => K r r2 h2) := by
    intro r hn hr
    unfold wp_M_part b_M_part_17
    intro h1 g1
    have e23 : h1.1 39 23 = nI ps.length := by rw [g1]; simp [zi1]; exact a12
    rw [e23, hr, g1]
    refine ⟨fun _ => fin _ _, fun q => ⟨fun q2 => ?_, fun _ => fin _ _⟩⟩
    rcases hn with z | ⟨i, hi, rfl, z⟩
    · exact absurd z q
    · rw [nI_ltI (by omega) (by omega)] at q2; omega
  unfold wp_R_part
  refine ⟨a4.1, ?_⟩
  by_cases c : a < 0
  · have : wp_T_has (h.2.2 0 3) a h = wp_T_has (h.2.2 0 3) a h := rfl
    unfold wp_T_has b_T_has_22 b_T_has_23
    refine ⟨a4.1, fun _ => ⟨rfl, ?_⟩, fun q => absurd c q⟩
    exact ⟨fun q => absurd rfl q, fun _ => no (-1) (Or.inl c) rfl⟩
  · obtain ⟨i, hi, rfl⟩ := i_nn c
    refine sp_T_has a4.1 a5 hl hi ?_
    by_cases ci : i < ps.length
    · rw [show decide (i < ps.length) = true by simpa using ci]
      obtain ⟨p1, p2, p3, p4, p5, p6, p7, p8, p9, p10, p11⟩ := a13 i ci
      obtain ⟨b1, b2, b3, b4, b5⟩ := a6.2.1 i ci
      have ref : ∀ r : Int32, (b = 0 → r = nI (pPl (pget ps i))) → (b = 1 → r = nI (pKd (pget ps i))) → (b = 2 → r = Int32.ofInt (pLo (pget ps i))) → (b = 3 → r = Int32.ofInt (pHi (pget ps i))) → (¬ b = 0 → ¬ b = 1 → ¬ b = 2 → ¬ b = 3 → r = -1) → wp_M_part (nI i) b h (fun r2 h2 => K r r2 h2) := by
        intro r r0 r1 r2 r3 r4
        unfold wp_M_part
        intro h1 g1
        have e23 : h1.1 39 23 = nI ps.length := by rw [g1]; simp [zi1]; exact a12
        have vin : vp_in (nI (100 + i)) 200 := vp_in_nI (by omega) (by decide)
        rw [e23, show (100 : Int32) + nI i = nI (100 + i) from nI_add 100 i, nI_clamp' (show 100 + i < 2147483648 by omega)]
        have o : ∀ c, c ≠ 39 → h1.1 c (100 + i) = h.1 c (100 + i) := fun c hc => by rw [g1, zi_ne hc]
        have o2 : h1.2.1 = h.2.1 := by rw [g1]; rfl
        rw [o 45 (by decide), o 46 (by decide), o2, p2, p3, p4, p5, nI_ltI (by omega) (by omega)]
        refine ⟨fun q => absurd q c, fun _ => ⟨fun _ => ⟨fun z => ⟨vin, ?_⟩, fun n0 => ⟨fun z => ⟨vin, ?_⟩, fun n1 => ⟨fun z => ⟨vin, ?_⟩, fun n2 => ⟨fun z => ⟨vin, ?_⟩, fun n3 => ?_⟩⟩⟩⟩, fun q => absurd ci q⟩⟩
        · rw [r0 z, g1]; exact fin _ _
        · rw [r1 z, g1]; exact fin _ _
        · rw [r2 z, g1]
          have := l2i_of (wi_i32 b3).1 (wi_i32 b3).2
          show K _ ((jL (pLo (pget ps i))).toInt32) _
          unfold jL
          rw [this]; exact fin _ _
        · rw [r3 z, g1]
          have := l2i_of (wi_i32 b4).1 (wi_i32 b4).2
          show K _ ((jL (pHi (pget ps i))).toInt32) _
          unfold jL
          rw [this]; exact fin _ _
        · rw [r4 n0 n1 n2 n3, g1]; exact fin _ _
      refine ⟨fun _ => ⟨fun z => ⟨a4.1, sp_T_placeOf a4.1 a5 hl ci (ref _ (fun _ => rfl) ?_ ?_ ?_ ?_)⟩, fun n0 => ⟨fun z => ⟨a4.1, sp_T_kindOf a4.1 a5 hl ci (ref _ ?_ (fun _ => rfl) ?_ ?_ ?_)⟩, fun n1 => ⟨fun z => ⟨a4.1, sp_T_lowOf a4.1 a5 hl ci (ref _ ?_ ?_ (fun _ => rfl) ?_ ?_)⟩, fun n2 => ⟨fun z => ⟨a4.1, sp_T_highOf a4.1 a5 hl ci (ref _ ?_ ?_ ?_ (fun _ => rfl) ?_)⟩, fun n3 => ref _ ?_ ?_ ?_ ?_ (fun _ _ _ _ => rfl)⟩⟩⟩⟩, fun q => absurd q (by decide)⟩
      all_goals (first | (intro y; exact absurd y (by assumption)) | (intro y; subst z; exact absurd y (by decide)) | (intro y1 y2 y3 y4; first | exact absurd z y1 | exact absurd z y2 | exact absurd z y3 | exact absurd z y4))
    · rw [show decide (i < ps.length) = false by simp; omega]
      exact ⟨fun q => absurd rfl q, fun _ => no (-1) (Or.inr ⟨i, hi, rfl, by omega⟩) rfl⟩
theorem c_width {h : zH} {K : Int64 → Int64 → zH → Prop} (hI : Inv h) (hK : ∀ r h', Inv h' → K r r h') : wp_R_width h (fun r1 h1 => wp_M_width h1 (fun r2 h2 => K r1 r2 h2)) := by
  obtain ⟨n, sg, vr, wv, ps, hS⟩ := hI
  obtain ⟨a1, a2, a3, a4, a5, a6, a7, a8, a9, a10, a11, a12, a13⟩ := id hS
  have hl := a6.2.2.1
  have fin : ∀ r x, K r r (zi h 39 0 x) := fun r x => hK r _ ⟨n, sg, vr, wv, ps, hS.t0⟩
  have e10 := a5.1
  unfold wp_R_width
  rw [e10, nI_lit (d := 0) (by omega) (by decide)]
  refine ⟨a4.1, fun q => ?_, fun q => ?_⟩
  · obtain ⟨m, hm⟩ : ∃ m, ps.length = m + 1 := ⟨ps.length - 1, by omega⟩
    have hi : m < ps.length := by omega
    obtain ⟨p1, p2, p3, p4, p5, p6, p7, p8, p9, p10, p11⟩ := a13 m hi
    obtain ⟨b1, b2, b3, b4, b5⟩ := a6.2.1 m hi
    rw [hm, nI_pred]
    refine sp_T_highOf a4.1 a5 hl hi ⟨a4.1, sp_T_lowOf a4.1 a5 hl hi ?_⟩
    rw [i2j b3, i2j b4]
    unfold wp_M_width b_M_width_45
    intro h1 g1
    have e23 : h1.1 39 23 = nI (m + 1) := by rw [g1]; simp [zi1]; rw [a12, hm]
    have o2 : h1.2.1 = h.2.1 := by rw [g1]; rfl
    have vin : vp_in (nI (100 + m)) 200 := vp_in_nI (by omega) (by decide)
    rw [e23, show (99 : Int32) + nI (m + 1) = nI (100 + m) by rw [show (99 : Int32) = nI 99 from rfl, nI_add]; congr 1; omega, nI_clamp' (by omega), o2, p4, p5]
    refine ⟨fun _ => ⟨vin, vin, by rw [g1]; exact fin _ _⟩, fun z => absurd ((nI_lit (d := 0) (by omega) (by decide)).mp z) (by omega)⟩
  · unfold wp_M_width b_M_width_45
    intro h1 g1
    have e23 : h1.1 39 23 = nI ps.length := by rw [g1]; simp [zi1]; exact a12
    rw [e23, q, g1]
    exact ⟨fun z => absurd rfl z, fun _ => fin _ _⟩
theorem c_count {h : zH} {a : Int32} {K : Int32 → Int32 → zH → Prop} (hI : Inv h) (hK : ∀ r h', Inv h' → K r r h') : wp_R_count a h (fun r1 h1 => wp_M_count a h1 (fun r2 h2 => K r1 r2 h2)) := by
  obtain ⟨n, sg, vr, wv, ps, hS⟩ := hI
  obtain ⟨a1, a2, a3, a4, a5, a6, a7, a8, a9, a10, a11, a12, a13⟩ := id hS
  have hl := a6.2.2.1
  have fin : ∀ r x, K r r (zi h 39 0 x) := fun r x => hK r _ ⟨n, sg, vr, wv, ps, hS.t0⟩
  have e10 := a5.1
  have ref : ∀ r : Int32, (a = 0 → r = nI vr.1) → (a = 1 → r = nI ps.length) → (a = 2 → r = nI n) → (a = 3 → r = (if ps.length = 0 then 0 else nI (pDp (pget ps (ps.length - 1))))) → (¬ a = 0 → ¬ a = 1 → ¬ a = 2 → ¬ a = 3 → r = -1) → wp_M_count a h (fun r2 h2 => K r r2 h2) := by
    intro r r0 r1 r2 r3 r4
    unfold wp_M_count b_M_count_74
    intro h1 g1
    have e23 : h1.1 39 23 = nI ps.length := by rw [g1]; simp [zi1]; exact a12
    have e1 : h1.1 39 1 = nI vr.1 := by rw [g1]; simp [zi1]; exact a9
    have e6 : h1.1 39 6 = nI n := by rw [g1]; simp [zi1]; exact a7
    rw [e23, e1, e6]
    refine ⟨fun z => by rw [r0 z, g1]; exact fin _ _, fun n0 => ⟨fun z => by rw [r1 z, g1]; exact fin _ _, fun n1 => ⟨fun z => by rw [r2 z, g1]; exact fin _ _, fun n2 => ⟨fun z => ⟨fun y => ?_, fun y => ?_⟩, fun n3 => by rw [r4 n0 n1 n2 n3, g1]; exact fin _ _⟩⟩⟩⟩
    · have y' : ps.length ≠ 0 := fun w => y (by rw [w]; rfl)
      obtain ⟨m, hm⟩ : ∃ m, ps.length = m + 1 := ⟨ps.length - 1, by omega⟩
      have hi : m < ps.length := by omega
      have p9 := (a13 m hi).2.2.2.2.2.2.2.2.1
      rw [hm, show (99 : Int32) + nI (m + 1) = nI (100 + m) by rw [show (99 : Int32) = nI 99 from rfl, nI_add]; congr 1; omega, nI_clamp' (by omega)]
      refine ⟨vp_in_nI (by omega) (by decide), ?_⟩
      have o : h1.1 52 (100 + m) = h.1 52 (100 + m) := by rw [g1, zi_ne (by decide)]
      have er := r3 z
      rw [if_neg y', hm, Nat.add_sub_cancel] at er
      rw [o, p9, er, g1]; exact fin _ _
    · have y' : ps.length = 0 := (nI_lit (d := 0) (by omega) (by decide)).mp y
      have er := r3 z
      rw [if_pos y'] at er
      rw [er, g1]; exact fin _ _
  unfold wp_R_count
  rw [e10, a2.1, a1.1]
  refine ⟨fun z => ref _ (fun _ => rfl) ?_ ?_ ?_ ?_, fun n0 => ⟨fun z => ⟨a4.1, ref _ ?_ (fun _ => rfl) ?_ ?_ ?_⟩, fun n1 => ⟨fun z => ref _ ?_ ?_ (fun _ => rfl) ?_ ?_, fun n2 => ⟨fun z => ⟨a4.1, ?_⟩, fun n3 => ref _ ?_ ?_ ?_ ?_ (fun _ _ _ _ => rfl)⟩⟩⟩⟩
  case refine_13 =>
    by_cases y : ps.length = 0
    · rw [y]
      unfold wp_T_depthOf b_T_depthOf_20
      refine ⟨a4.1, sp_T_hasM a4.1 ⟨fun _ => ref _ (fun w => absurd w n0) (fun w => absurd w n1) (fun w => absurd w n2) (fun _ => by rw [if_pos y]) (fun _ _ _ w => absurd z w), fun w => absurd rfl w⟩⟩
    · obtain ⟨m, hm⟩ : ∃ m, ps.length = m + 1 := ⟨ps.length - 1, by omega⟩
      have hi : m < ps.length := by omega
      rw [hm, nI_pred]
      refine sp_T_depthOf a4.1 a5 hl hi (ref _ (fun w => absurd w n0) (fun w => absurd w n1) (fun w => absurd w n2) (fun _ => ?_) (fun _ _ _ w => absurd z w))
      rw [if_neg y, hm, Nat.add_sub_cancel]
  all_goals (first | (intro y; exact absurd y (by assumption)) | (intro y; subst z; exact absurd y (by decide)) | (intro y1 y2 y3 y4; first | exact absurd z y1 | exact absurd z y2 | exact absurd z y3 | exact absurd z y4))
