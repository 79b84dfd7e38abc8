theorem LPk_mem {k c : Nat} (hk : xTm k) (h : c ∈ 30 :: LPk k) : (29 ≤ c ∧ c ≤ 38) ∨ (k ≤ c ∧ c ≤ k + 10) := by
  unfold LPk at h
  simp only [List.mem_cons] at h
  rw [LT_mem] at h
  omega
set_option maxHeartbeats 1000000 in
theorem c_take {h : zH} {K : Int32 → Int32 → zH → Prop} (hI : Inv h) (hK : ∀ r h', Inv h' → K r r h') : wp_R_take h (fun r1 h1 => wp_M_take h1 (fun r2 h2 => K r1 r2 h2)) := by
  obtain ⟨n, sg, vr, wv, ps, hS⟩ := hI
  obtain ⟨a1, a2, a3, a4, a5, a6, a7, a8, a9, a10, a11, a12, a13⟩ := id hS
  have hv := a6.2.2.2.1
  obtain ⟨t3, t4, tne⟩ := a4
  have k3 := xTm_ge t3
  have k4 := xTm_ge t4
  have kk : ∀ c, (c < 7 ∨ 39 ≤ c) → c ∉ 30 :: LPk (h.2.2 0 4) := by
    intro c hc z
    have := LPk_mem t4 z
    omega
  have kt : ∀ j, j ≤ 10 → h.2.2 0 3 + j ∉ 30 :: LPk (h.2.2 0 4) := by
    intro j hj z
    have := LPk_mem t4 z
    rcases t3 with e | e <;> rcases t4 with f | f <;> omega
  -- the reference's take, on what the class leaves
  have refB : ∀ (e : Nat) (h1 : zH), runT sg n vr (n + 1) 0 0 St0 = .error e → (∀ c, 39 ≤ c → h1.1 c = h.1 c ∧ h1.2.1 c = h.2.1 c) → (∀ h2, FK keepK h1 h2 → (∀ c i, 44 ≤ c → c ≤ 53 → 100 ≤ i → h2.1 c i = h1.1 c i ∧ h2.2.1 c i = h1.2.1 c i) → h2.1 39 23 = h1.1 39 23 → h2.1 39 6 = 0 → K (nI e) (nI e) h2) → wp_M_take h1 (fun r2 h2 => K (nI e) r2 h2) := by
    intro e h1 he o hq
    refine sp_M_take (sg := sg) (n := n) (vr := vr) hv (by rw [(o 39 (by decide)).1]; exact a7) a1.2.1 (fun i hi => ⟨by rw [(o 43 (by decide)).1]; exact a8 i hi, (a1.2.2 i hi).2⟩) (by rw [(o 39 (by decide)).1]; exact a9) (fun j hj => by rw [(o 40 (by decide)).1, (o 41 (by decide)).1]; exact a10 j hj) (fun e' h2 c f1 f2 f3 f4 f5 f6 => ?_) (fun ps' h2 c f1 f2 f3 f4 f5 f6 f7 f8 => ?_)
    · rw [he] at c; cases c; exact hq h2 f1 f2 f3 f5
    · rw [he] at c; cases c
  have refG : ∀ (ps' : List Pt) (h1 : zH), runT sg n vr (n + 1) 0 0 St0 = .ok ps' → (∀ c, 39 ≤ c → h1.1 c = h.1 c ∧ h1.2.1 c = h.2.1 c) → (∀ h2, FK keepK h1 h2 → RMt h2 100 ps' → h2.1 39 23 = nI ps'.length → h2.1 39 6 = 0 → ps'.length ≤ 100 → Bas ps' → K 0 0 h2) → wp_M_take h1 (fun r2 h2 => K 0 r2 h2) := by
    intro ps' h1 he o hq
    refine sp_M_take (sg := sg) (n := n) (vr := vr) hv (by rw [(o 39 (by decide)).1]; exact a7) a1.2.1 (fun i hi => ⟨by rw [(o 43 (by decide)).1]; exact a8 i hi, (a1.2.2 i hi).2⟩) (by rw [(o 39 (by decide)).1]; exact a9) (fun j hj => by rw [(o 40 (by decide)).1, (o 41 (by decide)).1]; exact a10 j hj) (fun e' h2 c f1 f2 f3 f4 f5 f6 => ?_) (fun ps9 h2 c f1 f2 f3 f4 f5 f6 f7 f8 => ?_)
    · rw [he] at c; cases c
    · rw [he] at c; cases c; exact hq h2 f1 f2 f3 f5 f7 f8
  unfold wp_R_take wp_A_clear b_R_take_41
  refine sp_P_read t4 hv a1 a2 (fun e h1 c b => ?_) (fun ps' h1 c b => ?_)
  · obtain ⟨b1, b2, b3⟩ := b
    intro h2 g2
    have ne : ¬ nI e = 0 := fun z => by have := (nI_lit (d := 0) (by omega) (by decide)).mp z; omega
    refine ⟨fun _ => ?_, fun z => absurd z ne⟩
    have o2 : ∀ c, c ≠ 5 → c ∉ 30 :: LPk (h.2.2 0 4) → h2.1 c = h.1 c ∧ h2.2.1 c = h.2.1 c ∧ h2.2.2 c = h.2.2 c := by
      intro c n5 nl
      rw [g2]
      exact ⟨by rw [zi_ne n5]; exact (b1 c nl).1, (b1 c nl).2.1, (b1 c nl).2.2⟩
    refine refB e h2 c (fun c hc => ⟨(o2 c (by omega) (kk c (by omega))).1, (o2 c (by omega) (kk c (by omega))).2.1⟩) (fun h3 f1 f2 f3 f5 => hK _ _ ⟨0, sg, vr, wv, ps, ?_⟩)
    have o3 : ∀ c, c < 39 → h3.1 c = h2.1 c ∧ h3.2.1 c = h2.2.1 c ∧ h3.2.2 c = h2.2.2 c := fun c hc => ⟨funext fun i => (f1 c i (Or.inl hc)).1, funext fun i => (f1 c i (Or.inl hc)).2.1, funext fun i => (f1 c i (Or.inl hc)).2.2⟩
    have o5 : ∀ c, c < 7 → c ≠ 5 → h3.1 c = h.1 c ∧ h3.2.2 c = h.2.2 c := fun c hc n5 => ⟨(o3 c (by omega)).1.trans (o2 c n5 (kk c (by omega))).1, (o3 c (by omega)).2.2.trans (o2 c n5 (kk c (by omega))).2.2⟩
    have o4 : ∀ c i, 40 ≤ c → c ≤ 43 → h3.1 c i = h.1 c i := fun c i h1 h4 => (f1 c i (by unfold keepK; omega)).1.trans (by rw [(o2 c (by omega) (kk c (by omega))).1])
    have z5 : h3.1 5 1 = nI 0 := by rw [(o3 5 (by decide)).1, g2]; simp [zi1]; rfl
    have r0 : h3.2.2 0 = h.2.2 0 := (o5 0 (by decide) (by decide)).2
    refine ⟨⟨z5, by omega, fun i hi => absurd hi (by omega)⟩, ?_, fun i hi => by rw [(o5 4 (by decide) (by decide)).1]; exact a3 i hi, by rw [r0]; exact ⟨t3, t4, tne⟩, ?_, a6, f5, fun i hi => absurd hi (by omega), ?_, fun j hj => by rw [o4 40 j (by decide) (by decide), o4 41 j (by decide) (by decide)]; exact a10 j hj, fun i hi => by rw [o4 42 i (by decide) (by decide)]; exact a11 i hi, ?_, ?_⟩
    · unfold RV; rw [(o5 1 (by decide) (by decide)).1, (o5 2 (by decide) (by decide)).1, (o5 3 (by decide) (by decide)).1]; exact a2
    · rw [r0]
      refine RT.same (h := h) (fun j hj => ?_) a5
      rw [(o3 _ (by omega)).1, (o2 _ (by omega) (kt j hj)).1]
    · rw [(f1 39 1 (by unfold keepK; omega)).1, (o2 39 (by decide) (kk 39 (by decide))).1]; exact a9
    · rw [f3, (o2 39 (by decide) (kk 39 (by decide))).1]; exact a12
    · refine RMt.same (h := h) (fun c i h1 h4 _ => ?_) a13
      obtain ⟨x1, x2⟩ := f2 c (100 + i) h1 h4 (by omega)
      rw [x1, x2, (o2 c (by omega) (kk c (by omega))).1, (o2 c (by omega) (kk c (by omega))).2.1]
      exact ⟨rfl, rfl⟩
  · obtain ⟨b1, b2, b3, b4, b5⟩ := b
    intro h2 g2
    refine ⟨fun z => absurd rfl z, fun _ h5 g5 h6 g6 => ?_⟩
    have o2 : ∀ c, c ≠ 5 → c ∉ 30 :: LPk (h.2.2 0 4) → h2.1 c = h.1 c ∧ h2.2.1 c = h.2.1 c ∧ h2.2.2 c = h.2.2 c := by
      intro c n5 nl
      rw [g2]
      exact ⟨by rw [zi_ne n5]; exact (b1 c nl).1, (b1 c nl).2.1, (b1 c nl).2.2⟩
    have rr : h2.2.2 0 = h.2.2 0 := (o2 0 (by decide) (kk 0 (by decide))).2.2
    rw [rr] at g5 g6
    have i6 : h6.1 = h2.1 := by rw [g6, g5]; rfl
    have l6 : h6.2.1 = h2.2.1 := by rw [g6, g5]; rfl
    have s3 : h6.2.2 0 3 = h.2.2 0 4 := by rw [g6, g5]; simp [zr3]
    have s4 : h6.2.2 0 4 = h.2.2 0 3 := by rw [g6]; simp [zr3]
    refine refG ps' h6 c (fun c hc => ⟨by rw [i6]; exact (o2 c (by omega) (kk c (by omega))).1, by rw [l6]; exact (o2 c (by omega) (kk c (by omega))).2.1⟩) (fun h3 f1 f2 f3 f5 f6 f7 => hK _ _ ⟨0, sg, vr, wv, ps', ?_⟩)
    have o3 : ∀ c, c < 39 → h3.1 c = h2.1 c ∧ h3.2.2 c = h6.2.2 c := fun c hc => ⟨(funext fun i => (f1 c i (Or.inl hc)).1).trans (by rw [i6]), funext fun i => (f1 c i (Or.inl hc)).2.2⟩
    have o5 : ∀ c, c < 7 → c ≠ 5 → h3.1 c = h.1 c := fun c hc n5 => (o3 c (by omega)).1.trans (o2 c n5 (kk c (by omega))).1
    have o4 : ∀ c i, 40 ≤ c → c ≤ 43 → h3.1 c i = h.1 c i := fun c i h1 h4 => (f1 c i (by unfold keepK; omega)).1.trans (by rw [i6, (o2 c (by omega) (kk c (by omega))).1])
    have z5 : h3.1 5 1 = nI 0 := by rw [(o3 5 (by decide)).1, g2]; simp [zi1]; rfl
    have r3 : h3.2.2 0 3 = h.2.2 0 4 := by rw [(o3 0 (by decide)).2]; exact s3
    have r4 : h3.2.2 0 4 = h.2.2 0 3 := by rw [(o3 0 (by decide)).2]; exact s4
    have wf : Wf vr ps' := runT_wf hv (fun i hi => tok_ok a1 (by have := a1.2.1; omega)) (n + 1) 0 0 St0 ps' (by decide) (by omega) Iw0 trivial c
    refine ⟨⟨z5, by omega, fun i hi => absurd hi (by omega)⟩, ?_, fun i hi => by rw [o5 4 (by decide) (by decide)]; exact a3 i hi, by rw [r3, r4]; exact ⟨t4, t3, fun z => tne z.symm⟩, ?_, ⟨wf, f7, f6, hv, a6.2.2.2.2⟩, f5, fun i hi => absurd hi (by omega), ?_, fun j hj => by rw [o4 40 j (by decide) (by decide), o4 41 j (by decide) (by decide)]; exact a10 j hj, fun i hi => by rw [o4 42 i (by decide) (by decide)]; exact a11 i hi, f3, f2⟩
    · unfold RV; rw [o5 1 (by decide) (by decide), o5 2 (by decide) (by decide), o5 3 (by decide) (by decide)]; exact a2
    · rw [r3]
      refine RT.same (h := h1) (fun j hj => ?_) b2
      rw [(o3 _ (by omega)).1, g2, zi_ne (by omega)]
    · rw [(f1 39 1 (by unfold keepK; omega)).1, i6, (o2 39 (by decide) (kk 39 (by decide))).1]; exact a9
/-- the reference's value -/
theorem sp_M_valueN {h : zH} {a : Int32} {post : Int64 → zH → Prop} {ps : List Pt} (e23 : h.1 39 23 = nI ps.length) (hl : ps.length ≤ 100) (hn : a < 0 ∨ ∃ i, i < 2147483648 ∧ a = nI i ∧ ps.length ≤ i) (hp : post 0 (zi h 39 0 1)) : wp_M_value a h post := by
  have b13 : b_M_value_13 post a h := by
    unfold b_M_value_13 b_M_value_18
    intro h4 g4
    have e0 : h4.1 39 0 = 1 := by rw [g4]; simp [zi1]
    rw [e0, g4]
    exact ⟨fun q => absurd q (by decide), fun _ => hp⟩
  unfold wp_M_value
  rw [e23]
  refine ⟨fun _ => b13, fun q => ⟨fun q2 => ?_, fun _ => b13⟩⟩
  rcases hn with z | ⟨i, hi, rfl, z⟩
  · exact absurd z q
  · rw [nI_ltI (by omega) (by omega)] at q2; omega
theorem sp_M_valueY {h : zH} {i n : Nat} {sg : Nat → Nat} {vr : Vr} {wv : Nat → Int} {ps : List Pt} {post : Int64 → zH → Prop} (hS : InvS h n sg vr wv ps) (hi : i < ps.length) (hp : ∀ h', InvS h' n sg vr wv ps → h'.1 39 0 = 0 → h'.2.1 59 = h.2.1 59 → post (jL (vget wv ps i)) h') : wp_M_value (nI i) h post := by
  obtain ⟨a1, a2, a3, a4, a5, a6, a7, a8, a9, a10, a11, a12, a13⟩ := id hS
  have hl := a6.2.2.1
  unfold wp_M_value
  rw [a12, nI_ltI (by omega) (by omega)]
  refine ⟨fun q => absurd q (nI_pos (by omega)), fun _ => ⟨fun _ => ?_, fun q => absurd hi q⟩⟩
  unfold b_M_value_18
  intro h4 g4
  have e0 : h4.1 39 0 = 0 := by rw [g4]; simp [zi1]
  have S4 : InvS h4 n sg vr wv ps := by rw [g4]; exact hS.t0
  rw [e0]
  refine ⟨fun _ => ⟨i + 2, sp_mv a6 hi (i + 1) 0 h4 (by omega) (by omega) S4.2.2.2.2.2.2.2.2.2.2.2.2 S4.2.2.2.2.2.2.2.2.2.2.1 (fun x hx => absurd hx (by omega)) (fun h' e1 e2 e3 => hp h' ?_ ?_ ?_)⟩, fun q => absurd (by decide) q⟩
  · exact InvS.q (h := h4) (fun c i _ => by rw [e1]) (fun c h1 h2 => e3 c (by omega)) e2 S4
  · rw [e1]; exact e0
  · rw [e3 59 (by decide), g4]; rfl
