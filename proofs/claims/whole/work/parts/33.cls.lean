theorem sp_T_hasS {h : zH} {k i n : Nat} {post : Int32 → zH → Prop} (hk : xTm k) (hs : h.1 k 10 = nI n) (hl : n ≤ 100) (hi : i < n) (hp : post 1 h) : wp_T_has k (nI i) h post := by
  unfold wp_T_has b_T_has_22 b_T_has_23
  have hlt : n < 2147483648 := by omega
  have hi2 : i < 2147483648 := by omega
  rw [hs]
  refine ⟨hk, fun q => absurd q (nI_pos hi2), fun _ => ⟨fun q => ?_, fun q => ⟨fun q2 => ?_, fun _ => ⟨rfl, hp⟩⟩⟩⟩
  · rw [nI_leI hlt hi2] at q; omega
  · replace q2 := (lit_le_nI (d := 100) hi2 (by decide)).mp q2
    omega
theorem sp_T_tellRange {h : zH} {k n : Nat} {l1 l3 : Int64} {post : zH → Prop} (hk : xTm k) (hs : h.1 k 10 = nI (n + 1)) (hl : n < 100) (hp : post (zi (zi h (k + 4) n l1.toInt32) (k + 5) n l3.toInt32)) : wp_T_tellRange k l1 l3 h post := by
  unfold wp_T_tellRange b_T_tellRange_35
  have hlt : n < 2147483648 := by omega
  rw [hs, nI_pred]
  refine ⟨hk, sp_T_hasS hk hs (by omega) (by omega) ⟨fun q => absurd q (by decide), fun _ => ⟨vp_in_nI hl (by decide), fun h3 g3 => ⟨vp_in_nI hl (by decide), fun h4 g4 => ?_⟩⟩⟩⟩
  rw [nI_clamp' hlt] at g3 g4
  rw [g4, g3]
  exact hp
theorem nI_fault (a b : Nat) : nI a + 8 * nI b = nI (a + 8 * b) := by
  have : (8 : Int32) * nI b = nI (8 * b) := pk_mul 8 b
  rw [this, nI_add]
theorem sp_P_blame {h : zH} {a b : Nat} {post : zH → Prop} (hp : post (zi (zi h 29 10 (nI (a + 8 * b))) 29 9 3)) : wp_P_blame (nI a) (nI b) h post := by
  unfold wp_P_blame
  intro h1 g1 h2 g2
  rw [nI_fault] at g1
  rw [g2, g1]
  exact hp
/-! LOOSE -/
def StkL (h : zH) : List Nat → Prop
  | [] => True
  | x :: l => h.1 35 l.length = nI x ∧ StkL h l
def RL (h : zH) (pl : List Nat) : Prop := h.1 29 4 = nI pl.length ∧ StkL h pl
theorem StkL.same {h h' : zH} : ∀ {pl : List Nat}, (∀ i, i < pl.length → h'.1 35 i = h.1 35 i) → StkL h pl → StkL h' pl
  | [], _, _ => trivial
  | x :: l, e, a => ⟨(e l.length (by simp)).trans a.1, StkL.same (fun i hi => e i (by simp only [List.length_cons]; omega)) a.2⟩
theorem sp_P_popLoose {h : zH} {x : Nat} {l : List Nat} {post : Int32 → zH → Prop} (hr : RL h (x :: l)) (hl : l.length < 100) (hp : post (nI x) (zi h 29 4 (nI l.length))) : wp_P_popLoose h post := by
  unfold wp_P_popLoose b_P_popLoose_17
  obtain ⟨e1, e2, e3⟩ := hr
  simp only [List.length_cons] at e1
  refine ⟨fun q => absurd q (by rw [e1]; exact nI_nle (by omega) (by omega)), fun _ h3 g3 => ?_⟩
  rw [e1, nI_pred] at g3
  have f1 : h3.1 29 4 = nI l.length := by rw [g3]; simp [zi1]
  refine sp_R_at (xRow_c 35 100) (by decide) ?_
  have f2 : h3.1 35 l.length = nI x := by rw [g3]; simp [zi1, e2]
  rw [f1, fAt_nI hl (by decide), f2, g3]
  exact hp
/-! THE PARSER'S STATE -/
def RP (h : zH) (k : Nat) (σ : St) : Prop := h.2.2 29 8 = k ∧ xTm k ∧ RG h σ.1 ∧ RL h σ.2.1 ∧ RT h k σ.2.2
def LPk (k : Nat) : List Nat := 29 :: 31 :: 32 :: 33 :: 34 :: 35 :: 36 :: 37 :: 38 :: LT k
/-- sizes -/
def Szs (σ : St) : Prop := σ.1.length ≤ 197 ∧ σ.2.1.length ≤ σ.2.2.length ∧ σ.2.2.length ≤ 100 ∧ opsOk σ.1
theorem RG.same {h h' : zH} {ws : List Fr} (e : ∀ c, c = 31 ∨ c = 32 ∨ c = 33 ∨ c = 34 → h'.1 c = h.1 c) (a : RG h ws) : RG h' ws := by
  refine ⟨by rw [e 31 (by simp)]; exact a.1, by rw [e 31 (by simp)]; exact a.2.1, a.2.2.same (fun i _ => ⟨by rw [e 32 (by simp)], by rw [e 33 (by simp)], by rw [e 34 (by simp)]⟩)⟩
theorem RL.same {h h' : zH} {pl : List Nat} (e : h'.1 29 4 = h.1 29 4) (e2 : h'.1 35 = h.1 35) (a : RL h pl) : RL h' pl := ⟨e.trans a.1, a.2.same (fun i _ => by rw [e2])⟩
theorem RT.same {h h' : zH} {k : Nat} {ps : List Pt} (e : ∀ j, j ≤ 10 → h'.1 (k + j) = h.1 (k + j)) (a : RT h k ps) : RT h' k ps := ⟨by have := e 0 (by decide); rw [Nat.add_zero] at this; rw [this]; exact a.1, a.2.same (fun i j _ _ h9 => by rw [e j (by omega)])⟩
theorem xTm_ge {k : Nat} (hk : xTm k) : 7 ≤ k ∧ k ≤ 18 ∧ (k + 10 < 18 ∨ 18 ≤ k) := by rcases hk with rfl | rfl <;> omega
theorem LT_mem {k c : Nat} : c ∈ LT k ↔ k ≤ c ∧ c ≤ k + 10 := by
  simp only [LT, List.mem_cons, List.not_mem_nil, or_false]
  omega
theorem LT_LPk {k c : Nat} (hc : c ∈ LT k) : c ∈ LPk k := by
  unfold LPk
  exact List.mem_cons_of_mem _ (List.mem_cons_of_mem _ (List.mem_cons_of_mem _ (List.mem_cons_of_mem _ (List.mem_cons_of_mem _ (List.mem_cons_of_mem _ (List.mem_cons_of_mem _ (List.mem_cons_of_mem _ (List.mem_cons_of_mem _ hc))))))))
theorem l2i_of {a : Int} (h1 : -2147483648 ≤ a) (h2 : a < 2147483648) : (Int64.ofInt a).toInt32 = Int32.ofInt a := by
  apply Int32.toInt_inj.mp
  rw [i3 h1 h2, Int64.toInt_toInt32, Int64.toInt_ofInt_of_le (by simp; omega) (by simp; omega)]
  rw [Int.bmod_eq_of_le (by omega) (by omega)]
set_option maxHeartbeats 1000000 in
theorem sp_P_addPart {h : zH} {k : Nat} {σ : St} {op pl kd : Nat} {ex : Int32} {lo hi : Int} {post : zH → Prop} (hr : RP h k σ) (hz : Szs σ) (g0 : h.2.1 38 0 = Int64.ofInt lo) (g1 : h.2.1 38 1 = Int64.ofInt hi) (b1 : -2147483648 ≤ lo ∧ lo < 2147483648) (b2 : -2147483648 ≤ hi ∧ hi < 2147483648)
    (hf : σ.2.2.length = 100 → post (zi (zi h 29 10 (nI (6 + 8 * pl))) 29 9 3))
    (hp : σ.2.2.length < 100 → ∀ h', fr (LPk k) h h' → RG h' σ.1 → RL h' (σ.2.2.length :: σ.2.1) → h'.1 k 10 = nI (σ.2.2.length + 1) → StkT h' k σ.2.2 → PtN h' k σ.2.2.length (nI op) (nI pl) (nI kd) ex (Int32.ofInt lo) (Int32.ofInt hi) → h'.1 29 9 = 2 → h'.1 29 10 = h.1 29 10 → h'.2 = h.2 → post h') : wp_P_addPart (nI op) (nI pl) (nI kd) ex h post := by
  obtain ⟨ek, hk, rG, rL, rT⟩ := hr
  obtain ⟨z1, z2, z3, z4⟩ := hz
  unfold wp_P_addPart b_P_addPart_26
  rw [ek]
  refine ⟨hk, sp_T_isFull hk rT z3 ?_⟩
  by_cases hful : σ.2.2.length = 100
  · have hb : (σ.2.2.length == 100) = true := by simpa using hful
    rw [hb]
    exact ⟨fun _ => sp_P_blame (a := 6) (hf hful), fun q => absurd q (by decide)⟩
  · have hlt : σ.2.2.length < 100 := by omega
    have hb : (σ.2.2.length == 100) = false := by simpa using hful
    rw [hb]
    refine ⟨fun q => absurd rfl q, fun _ => ?_⟩
    have e4 := rL.1
    have hl4 : σ.2.1.length < 2147483648 := by omega
    refine ⟨fun q => absurd q (by rw [e4]; exact nI_pos hl4), fun _ => ⟨fun _ => ?_, fun q => absurd (by rw [e4]; exact (nI_lt_lit (d := 100) hl4 (by decide)).mpr (by omega)) q⟩⟩
    rw [ek]
    refine ⟨hk, sp_T_add hk rT hlt fun h8 f8 s8 t8 p8 y8 => ?_⟩
    have kk := xTm_ge hk
    have out : ∀ c : Nat, c ∉ LT k → h8.1 c = h.1 c ∧ h8.2.1 c = h.2.1 c ∧ h8.2.2 c = h.2.2 c := f8
    have n29 : (29 : Nat) ∉ LT k := by rw [LT_mem]; omega
    have n38 : (38 : Nat) ∉ LT k := by rw [LT_mem]; omega
    have e8 : h8.2.2 29 8 = k := by rw [(out 29 n29).2.2]; exact ek
    rw [e8]
    refine ⟨hk, sp_T_tellRange hk s8 hlt ?_⟩
    have q38 : h8.2.1 38 = h.2.1 38 := (out 38 n38).2.1
    rw [q38, g0, g1, l2i_of b1.1 b1.2, l2i_of b2.1 b2.2]
    generalize hh : zi (zi h8 (k + 4) σ.2.2.length (Int32.ofInt lo)) (k + 5) σ.2.2.length (Int32.ofInt hi) = h11
    have hP := p8 (Int32.ofInt lo) (Int32.ofInt hi)
    rw [hh] at hP
    have e11 : h11.2.2 29 8 = k := by rw [← hh]; exact e8
    have s11 : h11.1 k 10 = nI (σ.2.2.length + 1) := by rw [← hh]; simp [zi1, s8]
    have f11 : fr (LT k) h h11 := by rw [← hh]; exact (f8.zi (by simp [LT])).zi (by simp [LT])
    have l11 : h11.1 29 = h.1 29 := (f11 29 n29).1
    rw [e11]
    refine ⟨hk, by rw [l11, e4]; exact vp_in_nI (by omega) (by decide), fun h13 g13 h14 g14 h15 g15 => ?_⟩
    rw [l11, e4, nI_clamp' hl4, s11, nI_pred] at g13
    have l13 : h13.1 29 4 = nI σ.2.1.length := by rw [g13]; simp [zi1, l11, e4]
    rw [l13, nI_1] at g14
    refine hp hlt h15 ?_ ?_ ?_ ?_ ?_ ?_ ?_ ?_ ?_
    · rw [g15, g14, g13]
      have f12 : fr (LPk k) h h11 := f11.up (fun c hc => LT_LPk hc)
      exact ((f12.zi (by simp [LPk])).zi (by simp [LPk])).zi (by simp [LPk])
    · refine RG.same (h := h) (fun c hc => ?_) rG
      have hcn : c ∉ LT k := by rw [LT_mem]; omega
      rw [g15, g14, g13]
      rw [zi_ne (by omega), zi_ne (by omega), zi_ne (by omega)]
      exact (f11 c hcn).1
    · refine ⟨?_, ?_, ?_⟩
      · rw [g15, g14]; simp [zi1]
      · rw [g15, g14, g13]; simp [zi1]
      · refine StkL.same (h := h) (fun i hi => ?_) rL.2
        have hne : ¬ i = σ.2.1.length := by omega
        have n35 : (35 : Nat) ∉ LT k := by rw [LT_mem]; omega
        rw [g15, g14, g13]; simp [zi1, hne, (f11 35 n35).1]
    · rw [g15, g14, g13]
      rw [zi_ne (by omega), zi_ne (by omega), zi_ne (by omega)]
      exact s11
    · refine StkT.same (h := h8) (fun i j hi h1 h9 => ?_) t8
      have hne : ¬ i = σ.2.2.length := by omega
      rw [g15, g14, g13]
      rw [zi_ne (by omega), zi_ne (by omega), zi_ne (by omega), ← hh]
      simp [zi1, hne]
    · have cong : ∀ j, 1 ≤ j → j ≤ 9 → h15.1 (k + j) = h11.1 (k + j) := by
        intro j h1 h9
        rw [g15, g14, g13, zi_ne (by omega), zi_ne (by omega), zi_ne (by omega)]
      obtain ⟨q1, q2, q3, q4, q5, q6, q7, q8, q9⟩ := hP
      exact ⟨by rw [cong 1 (by decide) (by decide)]; exact q1, by rw [cong 2 (by decide) (by decide)]; exact q2, by rw [cong 3 (by decide) (by decide)]; exact q3, by rw [cong 4 (by decide) (by decide)]; exact q4, by rw [cong 5 (by decide) (by decide)]; exact q5, by rw [cong 6 (by decide) (by decide)]; exact q6, by rw [cong 7 (by decide) (by decide)]; exact q7, by rw [cong 8 (by decide) (by decide)]; exact q8, by rw [cong 9 (by decide) (by decide)]; exact q9⟩
    · rw [g15]; simp [zi1]
    · rw [g15, g14, g13]; simp [zi1, l11]
    · rw [g15, g14, g13, ← hh]
      exact y8
