theorem i3 {a : Int} (h1 : -2147483648 ≤ a) (h2 : a < 2147483648) : (Int32.ofInt a).toInt = a := Int32.toInt_ofInt_of_le (by simpa using h1) (by simpa using h2)
theorem narB {b : Bool} : narrow .boolean (.int (b01 b)) = .int (b01 b) := by cases b <;> rfl
/-- an operator's strength by its code alone -/
def cStr (c : Nat) : Int := if c = 22 then 1 else if c = 21 then 2 else if 14 ≤ c ∧ c ≤ 19 then 3 else if c = 9 ∨ c = 10 then 4 else if 11 ≤ c ∧ c ≤ 13 then 5 else if c = 20 ∨ c = 26 then 6 else -1
theorem sp_R_strengthOf {c : Nat} {h : zH} {post : Int32 → zH → Prop} (hc : c < 28) (hp : post (Int32.ofInt (cStr c)) h) : wp_R_strengthOf (nI c) h post := by
  revert hp
  refine c28 (P := fun c => post (Int32.ofInt (cStr c)) h → wp_R_strengthOf (nI c) h post) hc ?_
  unfold wp_R_strengthOf b_R_strengthOf_92 b_R_strengthOf_94 b_R_strengthOf_96 b_R_strengthOf_98 b_R_strengthOf_101 cStr
  simp [nI]
theorem sp_R_takesOne {c : Nat} {h : zH} {post : Int32 → zH → Prop} (hc : c < 28) (hp : post (b01 (c == 26 || c == 20 || c == 25)) h) : wp_R_takesOne (nI c) h post := by
  revert hp
  refine c28 (P := fun c => post (b01 (c == 26 || c == 20 || c == 25)) h → wp_R_takesOne (nI c) h post) hc ?_
  unfold wp_R_takesOne b_R_takesOne_18 b_R_takesOne_23 b01
  simp [nI, narrow]
theorem sp_R_isFunction {c : Nat} {h : zH} {post : Int32 → zH → Prop} (hc : c < 28) (hp : post (b01 (c == 23 || c == 24 || c == 25)) h) : wp_R_isFunction (nI c) h post := by
  revert hp
  refine c28 (P := fun c => post (b01 (c == 23 || c == 24 || c == 25)) h → wp_R_isFunction (nI c) h post) hc ?_
  unfold wp_R_isFunction b_R_isFunction_18 b_R_isFunction_23 b01
  simp [nI, narrow]
theorem sp_R_divides {c : Nat} {h : zH} {post : Int32 → zH → Prop} (hc : c < 28) (hp : post (b01 (c == 12 || c == 13)) h) : wp_R_divides (nI c) h post := by
  revert hp
  refine c28 (P := fun c => post (b01 (c == 12 || c == 13)) h → wp_R_divides (nI c) h post) hc ?_
  unfold wp_R_divides b_R_divides_12 b_R_divides_17 b01
  simp [nI, narrow]
theorem sp_G_topPlace {h : zH} {f : Fr} {l : List Fr} {post : Int32 → zH → Prop} (hr : RG h (f :: l)) (hl : l.length < 197) (hp : post (nI f.2.1) h) : wp_G_topPlace h post := by
  unfold wp_G_topPlace
  obtain ⟨e1, e2, e3⟩ := hr
  refine sp_R_at (xRow_c 33 197) (by decide) ?_
  rw [e1, List.length_cons, nI_pred, fAt_nI (by omega) (by decide), e3.2.1]
  exact hp
def topW : List Fr → Nat
  | [] => 0
  | f :: _ => cW f
theorem sp_G_topAwaited {h : zH} {ws : List Fr} {post : Int32 → zH → Prop} (hr : RG h ws) (hl : ws.length ≤ 197) (hp : post (nI (topW ws)) h) : wp_G_topAwaited h post := by
  unfold wp_G_topAwaited
  obtain ⟨e1, e2, e3⟩ := hr
  refine sp_R_at (xRow_c 34 197) (by decide) ?_
  cases ws with
  | nil =>
    rw [e1]
    show post (fAt (h.1 34) 197 (-1)) h
    rw [fAt_m1]
    exact hp
  | cons f l =>
    simp only [List.length_cons] at hl
    rw [e1, List.length_cons, nI_pred, fAt_nI (by omega) (by decide), e3.2.2.1]
    exact hp
def opsOk (ws : List Fr) : Prop := ∀ f ∈ ws, f.1 < 28
theorem sp_G_topStrength {h : zH} {ws : List Fr} {post : Int32 → zH → Prop} (hr : RG h ws) (hl : ws.length ≤ 197) (ho : opsOk ws) (hp : post (Int32.ofInt (topS ws)) h) : wp_G_topStrength h post := by
  unfold wp_G_topStrength b_G_topStrength_21
  refine sp_G_topCode hr hl ?_
  cases ws with
  | nil =>
    refine ⟨fun _ => sp_G_topCode hr hl (sp_R_strengthOf (by decide) hp), fun q => absurd q (by decide)⟩
  | cons f l =>
    have hf : f.1 < 28 := ho f List.mem_cons_self
    have hlt : cC f.1 < 2147483648 := by have := cC_lt hf; omega
    refine ⟨fun q => sp_G_topCode hr hl (sp_R_strengthOf (cC_lt hf) ?_), fun q => sp_G_topAwaited hr hl ⟨fun q2 => ?_, fun q2 => ?_⟩⟩
    · have q' : ¬ cC f.1 = 7 := fun e => q ((nI_lit hlt (by decide)).mpr e)
      have : cStr (cC f.1) = stg f.1 := by
        unfold cC at q' ⊢
        by_cases c : f.1 = 27
        · rw [if_pos c] at q'; exact absurd rfl q'
        · rw [if_neg c]; unfold cStr stg; rw [if_neg c]
      show post (Int32.ofInt (cStr (cC f.1))) h
      rw [this]
      exact hp
    · have q' : cC f.1 = 7 := (nI_lit hlt (by decide)).mp q
      have h7 : f.1 = 7 := by
        unfold cC at q'
        by_cases c : f.1 = 27
        · exfalso
          apply q2
          show nI (cW f) = 0
          unfold cW; rw [c]; simp [nI]
        · rw [if_neg c] at q'; exact q'
      have : topS (f :: l) = -1 := by show stg f.1 = -1; rw [h7]; decide
      rw [this] at hp
      exact hp
    · have q' : cC f.1 = 7 := (nI_lit hlt (by decide)).mp q
      have h7 : f.1 = 27 := by
        unfold cC at q'
        by_cases c : f.1 = 27
        · exact c
        · rw [if_neg c] at q'
          exfalso
          have : nI (cW f) = 0 := q2
          unfold cW at this; rw [q'] at this; simp [nI] at this
      have : topS (f :: l) = 0 := by show stg f.1 = 0; rw [h7]; decide
      rw [this] at hp
      exact hp
/-! A TERM'S PARTS -/
def cL (p : Pt) : Int32 := if pOp p = 2 ∨ pOp p = 3 then -1 else if pOp p = 7 then nI (pB p) else nI (pA p)
def cR (p : Pt) : Int32 := if pOp p = 2 ∨ pOp p = 3 then -1 else if pOp p = 7 then nI (pC p) else if pOp p = 20 ∨ pOp p = 25 ∨ pOp p = 26 then nI (pA p) else nI (pB p)
def cX (p : Pt) : Int32 := if pOp p = 3 then nI (pC p) else if pOp p = 7 then nI (pA p) else -1
def PtC (h : zH) (k i : Nat) (p : Pt) : Prop := h.1 (k + 1) i = nI (pOp p) ∧ h.1 (k + 2) i = nI (pPl p) ∧ h.1 (k + 3) i = nI (pKd p) ∧ h.1 (k + 4) i = Int32.ofInt (pLo p) ∧ h.1 (k + 5) i = Int32.ofInt (pHi p) ∧ h.1 (k + 6) i = cL p ∧ h.1 (k + 7) i = cR p ∧ h.1 (k + 8) i = cX p ∧ h.1 (k + 9) i = nI (pDp p)
def StkT (h : zH) (k : Nat) : List Pt → Prop
  | [] => True
  | p :: l => PtC h k l.length p ∧ StkT h k l
def RT (h : zH) (k : Nat) (ps : List Pt) : Prop := h.1 k 10 = nI ps.length ∧ StkT h k ps
theorem StkT.get {h : zH} {k : Nat} : ∀ {ps : List Pt} {i : Nat}, StkT h k ps → i < ps.length → PtC h k i (pget ps i)
  | [], i, _, hi => by simp at hi
  | p :: l, i, a, hi => by
    unfold pget
    by_cases c : i = l.length
    · rw [if_pos c, c]; exact a.1
    · rw [if_neg c]; exact StkT.get a.2 (by simp only [List.length_cons] at hi; omega)
theorem PtC.same {h h' : zH} {k i : Nat} {p : Pt} (e : ∀ j, 1 ≤ j → j ≤ 9 → h'.1 (k + j) i = h.1 (k + j) i) (a : PtC h k i p) : PtC h' k i p :=
  ⟨(e 1 (by decide) (by decide)).trans a.1, (e 2 (by decide) (by decide)).trans a.2.1, (e 3 (by decide) (by decide)).trans a.2.2.1, (e 4 (by decide) (by decide)).trans a.2.2.2.1, (e 5 (by decide) (by decide)).trans a.2.2.2.2.1, (e 6 (by decide) (by decide)).trans a.2.2.2.2.2.1, (e 7 (by decide) (by decide)).trans a.2.2.2.2.2.2.1, (e 8 (by decide) (by decide)).trans a.2.2.2.2.2.2.2.1, (e 9 (by decide) (by decide)).trans a.2.2.2.2.2.2.2.2⟩
theorem StkT.same {h h' : zH} {k : Nat} : ∀ {ps : List Pt}, (∀ i j, i < ps.length → 1 ≤ j → j ≤ 9 → h'.1 (k + j) i = h.1 (k + j) i) → StkT h k ps → StkT h' k ps
  | [], _, _ => trivial
  | p :: l, e, a => ⟨a.1.same (fun j h1 h2 => e l.length j (by simp) h1 h2), StkT.same (fun i j hi h1 h2 => e i j (by simp only [List.length_cons]; omega) h1 h2) a.2⟩
theorem sp_T_isFull {h : zH} {k : Nat} {ps : List Pt} {post : Int32 → zH → Prop} (hk : xTm k) (hr : RT h k ps) (hl : ps.length ≤ 100) (hp : post (b01 (ps.length == 100)) h) : wp_T_isFull k h post := by
  unfold wp_T_isFull b_T_isFull_14
  have hlt : ps.length < 2147483648 := by omega
  rw [hr.1]
  refine ⟨hk, fun q => ⟨rfl, ?_⟩, fun q => ⟨rfl, ?_⟩⟩
  · replace q := (nI_lt_lit (d := 100) hlt (by decide)).mp q
    have : (ps.length == 100) = false := by simp; omega
    rw [this] at hp; exact hp
  · replace q : ¬ ps.length < 100 := fun z => q ((nI_lt_lit (d := 100) hlt (by decide)).mpr z)
    have : (ps.length == 100) = true := by simp; omega
    rw [this] at hp; exact hp
theorem sp_T_has {h : zH} {k i : Nat} {ps : List Pt} {post : Int32 → zH → Prop} (hk : xTm k) (hr : RT h k ps) (hl : ps.length ≤ 100) (hi : i < 2147483648) (hp : post (b01 (decide (i < ps.length))) h) : wp_T_has k (nI i) h post := by
  unfold wp_T_has b_T_has_22 b_T_has_23
  have hlt : ps.length < 2147483648 := by omega
  rw [hr.1]
  refine ⟨hk, fun q => absurd q (nI_pos hi), fun _ => ⟨fun q => ⟨rfl, ?_⟩, fun q => ⟨fun q2 => ?_, fun _ => ⟨rfl, ?_⟩⟩⟩⟩
  · rw [nI_leI hlt hi] at q
    have : decide (i < ps.length) = false := by simp; omega
    rw [this] at hp; exact hp
  · rw [nI_leI hlt hi] at q
    replace q2 := (lit_le_nI (d := 100) hi (by decide)).mp q2
    omega
  · rw [nI_leI hlt hi] at q
    have : decide (i < ps.length) = true := by simp; omega
    rw [this] at hp; exact hp
theorem sp_T_hasM {h : zH} {k : Nat} {post : Int32 → zH → Prop} (hk : xTm k) (hp : post 0 h) : wp_T_has k (-1) h post := by
  unfold wp_T_has b_T_has_22 b_T_has_23
  exact ⟨hk, fun _ => ⟨rfl, hp⟩, fun q => absurd (by decide) q⟩
theorem xTm_row {k j : Nat} (hk : xTm k) (h1 : 1 ≤ j) (h9 : j ≤ 9) : xRow (k + j) 100 := by
  rcases hk with rfl | rfl <;> (rcases (show j = 1 ∨ j = 2 ∨ j = 3 ∨ j = 4 ∨ j = 5 ∨ j = 6 ∨ j = 7 ∨ j = 8 ∨ j = 9 by omega) with rfl | rfl | rfl | rfl | rfl | rfl | rfl | rfl | rfl) <;> exact ⟨by decide, rfl⟩
theorem sp_T_kindOf {h : zH} {k i : Nat} {ps : List Pt} {post : Int32 → zH → Prop} (hk : xTm k) (hr : RT h k ps) (hl : ps.length ≤ 100) (hi : i < ps.length) (hp : post (nI (pKd (pget ps i))) h) : wp_T_kindOf k (nI i) h post := by
  unfold wp_T_kindOf
  refine ⟨hk, sp_R_at (xTm_row hk (by decide) (by decide)) (by decide) ?_⟩
  rw [fAt_nI (by omega) (by decide), (hr.2.get hi).2.2.1]; exact hp
theorem sp_T_lowOf {h : zH} {k i : Nat} {ps : List Pt} {post : Int32 → zH → Prop} (hk : xTm k) (hr : RT h k ps) (hl : ps.length ≤ 100) (hi : i < ps.length) (hp : post (Int32.ofInt (pLo (pget ps i))) h) : wp_T_lowOf k (nI i) h post := by
  unfold wp_T_lowOf
  refine ⟨hk, sp_R_at (xTm_row hk (by decide) (by decide)) (by decide) ?_⟩
  rw [fAt_nI (by omega) (by decide), (hr.2.get hi).2.2.2.1]; exact hp
theorem sp_T_highOf {h : zH} {k i : Nat} {ps : List Pt} {post : Int32 → zH → Prop} (hk : xTm k) (hr : RT h k ps) (hl : ps.length ≤ 100) (hi : i < ps.length) (hp : post (Int32.ofInt (pHi (pget ps i))) h) : wp_T_highOf k (nI i) h post := by
  unfold wp_T_highOf
  refine ⟨hk, sp_R_at (xTm_row hk (by decide) (by decide)) (by decide) ?_⟩
  rw [fAt_nI (by omega) (by decide), (hr.2.get hi).2.2.2.2.1]; exact hp
theorem sp_T_placeOf {h : zH} {k i : Nat} {ps : List Pt} {post : Int32 → zH → Prop} (hk : xTm k) (hr : RT h k ps) (hl : ps.length ≤ 100) (hi : i < ps.length) (hp : post (nI (pPl (pget ps i))) h) : wp_T_placeOf k (nI i) h post := by
  unfold wp_T_placeOf
  refine ⟨hk, sp_R_at (xTm_row hk (by decide) (by decide)) (by decide) ?_⟩
  rw [fAt_nI (by omega) (by decide), (hr.2.get hi).2.1]; exact hp
theorem sp_T_depthOf {h : zH} {k i : Nat} {ps : List Pt} {post : Int32 → zH → Prop} (hk : xTm k) (hr : RT h k ps) (hl : ps.length ≤ 100) (hi : i < ps.length) (hp : post (nI (pDp (pget ps i))) h) : wp_T_depthOf k (nI i) h post := by
  unfold wp_T_depthOf b_T_depthOf_20
  refine ⟨hk, sp_T_has hk hr hl (by omega) ?_⟩
  have : decide (i < ps.length) = true := by simpa using hi
  rw [this]
  refine ⟨fun q => absurd q (by decide), fun _ => sp_R_at (xTm_row hk (by decide) (by decide)) (by decide) ?_⟩
  rw [fAt_nI (by omega) (by decide), (hr.2.get hi).2.2.2.2.2.2.2.2]; exact hp
/-- the cells of a term -/
def LT (k : Nat) : List Nat := [k, k + 1, k + 2, k + 3, k + 4, k + 5, k + 6, k + 7, k + 8, k + 9, k + 10]
theorem sp_T_clear {h : zH} {k : Nat} {post : zH → Prop} (hk : xTm k) (hp : ∀ h', fr (LT k) h h' → RT h' k [] → post h') : wp_T_clear k h post := by
  unfold wp_T_clear
  refine ⟨hk, fun h1 g1 => hp h1 ?_ ⟨?_, trivial⟩⟩
  · rw [g1]; exact fr.rf.zi (by simp [LT])
  · rw [g1]; simp [zi1, nI]
/-- Parser.addPart's two calls on its term: the part, as yet without what it takes -/
def PtN (h : zH) (k i : Nat) (op pl kd ex : Int32) (lo hi : Int32) : Prop := h.1 (k + 1) i = op ∧ h.1 (k + 2) i = pl ∧ h.1 (k + 3) i = kd ∧ h.1 (k + 4) i = lo ∧ h.1 (k + 5) i = hi ∧ h.1 (k + 6) i = -1 ∧ h.1 (k + 7) i = -1 ∧ h.1 (k + 8) i = ex ∧ h.1 (k + 9) i = 1
theorem sp_T_add {h : zH} {k : Nat} {ps : List Pt} {op pl kd ex : Int32} {post : zH → Prop} (hk : xTm k) (hr : RT h k ps) (hl : ps.length < 100)
    (hp : ∀ h', fr (LT k) h h' → h'.1 k 10 = nI (ps.length + 1) → StkT h' k ps → (∀ lo hi, PtN (zi (zi h' (k + 4) ps.length lo) (k + 5) ps.length hi) k ps.length op pl kd ex lo hi) → h'.2 = h.2 → post h') : wp_T_add k op pl kd ex h post := by
  unfold wp_T_add
  have hlt : ps.length < 2147483648 := by omega
  have e0 := hr.1
  refine ⟨hk, sp_T_isFull hk hr (by omega) ?_⟩
  have hb : (ps.length == 100) = false := by simp; omega
  rw [hb]
  refine ⟨fun _ => ?_, fun q => absurd rfl q⟩
  have hin : vp_in (nI ps.length) 100 := vp_in_nI hl (by decide)
  refine ⟨by rw [e0]; exact hin, fun h3 g3 => ?_⟩
  have e3 : h3.1 k 10 = nI ps.length := by rw [g3]; simp [zi1, e0]
  refine ⟨by rw [e3]; exact hin, fun h4 g4 => ?_⟩
  have e4 : h4.1 k 10 = nI ps.length := by rw [g4]; simp [zi1, e3]
  refine ⟨by rw [e4]; exact hin, fun h5 g5 => ?_⟩
  have e5 : h5.1 k 10 = nI ps.length := by rw [g5]; simp [zi1, e4]
  refine ⟨by rw [e5]; exact hin, fun h6 g6 => ?_⟩
  have e6 : h6.1 k 10 = nI ps.length := by rw [g6]; simp [zi1, e5]
  refine ⟨by rw [e6]; exact hin, fun h7 g7 => ?_⟩
  have e7 : h7.1 k 10 = nI ps.length := by rw [g7]; simp [zi1, e6]
  refine ⟨by rw [e7]; exact hin, fun h8 g8 => ?_⟩
  have e8 : h8.1 k 10 = nI ps.length := by rw [g8]; simp [zi1, e7]
  refine ⟨by rw [e8]; exact hin, fun h9 g9 h10 g10 => ?_⟩
  have e9 : h9.1 k 10 = nI ps.length := by rw [g9]; simp [zi1, e8]
  rw [e0, nI_clamp' hlt] at g3
  rw [e3, nI_clamp' hlt] at g4
  rw [e4, nI_clamp' hlt] at g5
  rw [e5, nI_clamp' hlt] at g6
  rw [e6, nI_clamp' hlt] at g7
  rw [e7, nI_clamp' hlt] at g8
  rw [e8, nI_clamp' hlt] at g9
  rw [e9, nI_1] at g10
  refine hp h10 ?_ ?_ ?_ ?_ (by rw [g10, g9, g8, g7, g6, g5, g4, g3]; rfl)
  · rw [g10, g9, g8, g7, g6, g5, g4, g3]
    exact (((((((fr.rf.zi (by simp [LT])).zi (by simp [LT])).zi (by simp [LT])).zi (by simp [LT])).zi (by simp [LT])).zi (by simp [LT])).zi (by simp [LT])).zi (by simp [LT])
  · rw [g10]; simp [zi1]
  · refine StkT.same (h := h) (fun i j hi h1 h9 => ?_) hr.2
    have hne : ¬ i = ps.length := by omega
    rw [g10, g9, g8, g7, g6, g5, g4, g3]
    have hk0 : ¬ k + j = k := by omega
    simp only [zi1, hne, hk0, and_false, false_and, if_false]
  · intro lo hi
    rw [g10, g9, g8, g7, g6, g5, g4, g3]
    refine ⟨?_, ?_, ?_, ?_, ?_, ?_, ?_, ?_, ?_⟩ <;> simp [zi1]
