/-! THE REFERENCE'S SIDE -/
def ropL : List Nat := [7, 1, 2, 3, 40, 41, 44, 63, 58, 43, 45, 42, 47, 37, 60, 200, 62, 201, 202, 203, 33, 204, 205, 4, 5, 6, 100, 101]
def rop (op : Nat) : Nat := ropL.getD op 0
theorem rop_inj0 : ∀ a, a < 28 → ∀ b, b < 28 → rop a = rop b → a = b := by decide
theorem rop_lt0 : ∀ a, a < 28 → rop a < 300 := by decide
theorem ropI {a : Nat} (b : Nat) (ha : a < 28) (hb : b < 28 := by decide) : nI (rop a) = nI (rop b) ↔ a = b := by
  have h1 := rop_lt0 a ha
  have h2 := rop_lt0 b hb
  rw [nI_eq (by omega) (by omega)]
  exact ⟨rop_inj0 a ha b hb, fun e => by rw [e]⟩
/-- what reading leaves alone -/
def keepM (c i : Nat) : Prop := c < 39 ∨ 58 ≤ c ∨ (40 ≤ c ∧ c ≤ 43) ∨ (44 ≤ c ∧ c ≤ 53 ∧ 100 ≤ i) ∨ (c = 39 ∧ (i = 0 ∨ i = 1 ∨ i = 6 ∨ i = 7 ∨ i = 23))
def keepC (c i : Nat) : Prop := keepM c i ∨ (c = 39 ∧ (i = 8 ∨ i = 9 ∨ i = 10 ∨ i = 11))
def FK (K : Nat → Nat → Prop) (h h' : zH) : Prop := ∀ c i, K c i → h'.1 c i = h.1 c i ∧ h'.2.1 c i = h.2.1 c i ∧ h'.2.2 c i = h.2.2 c i
theorem FK.rf {K : Nat → Nat → Prop} {h : zH} : FK K h h := fun _ _ _ => ⟨rfl, rfl, rfl⟩
theorem FK.tr {K : Nat → Nat → Prop} {h h1 h2 : zH} (a : FK K h h1) (b : FK K h1 h2) : FK K h h2 := fun c i k => ⟨(b c i k).1.trans (a c i k).1, (b c i k).2.1.trans (a c i k).2.1, (b c i k).2.2.trans (a c i k).2.2⟩
theorem FK.up {K K' : Nat → Nat → Prop} {h h1 : zH} (a : FK K h h1) (hs : ∀ c i, K' c i → K c i) : FK K' h h1 := fun c i k => a c i (hs c i k)
theorem FK.zi {K : Nat → Nat → Prop} {h h1 : zH} {k j : Nat} {x : Int32} (a : FK K h h1) (hk : ¬ K k j) : FK K h (zi h1 k j x) := a.tr (fun c i q => ⟨by rw [zi1, if_neg (fun e => hk (by rw [← e.1, ← e.2]; exact q))], rfl, rfl⟩)
theorem FK.zl {K : Nat → Nat → Prop} {h h1 : zH} {k j : Nat} {x : Int64} (a : FK K h h1) (hk : ¬ K k j) : FK K h (zl h1 k j x) := a.tr (fun c i q => ⟨rfl, by rw [zl2, if_neg (fun e => hk (by rw [← e.1, ← e.2]; exact q))], rfl⟩)
def cRd (f : Fr) : Nat := if f.1 = 23 ∨ f.1 = 24 then f.2.2 else if f.1 = 25 then f.2.2 - 1 else 0
def StkW (h : zH) : List Fr → Prop
  | [] => True
  | f :: l => h.1 54 l.length = nI (rop f.1) ∧ h.1 55 l.length = nI f.2.1 ∧ h.1 56 l.length = nI (cRd f) ∧ StkW h l
def StkY (h : zH) : List Nat → Prop
  | [] => True
  | x :: l => h.1 57 l.length = nI x ∧ StkY h l
def mA (p : Pt) : Int32 := if pOp p = 2 ∨ pOp p = 3 then -1 else nI (pA p)
def mB (p : Pt) : Int32 := if pOp p = 2 ∨ pOp p = 3 ∨ pOp p = 20 ∨ pOp p = 25 ∨ pOp p = 26 then -1 else nI (pB p)
def mC (p : Pt) : Int32 := if pOp p = 7 then nI (pC p) else -1
def PtM (h : zH) (i : Nat) (p : Pt) : Prop := h.1 44 i = nI (rop (pOp p)) ∧ h.1 45 i = nI (pPl p) ∧ h.1 46 i = nI (pKd p) ∧ h.2.1 47 i = jL (pLo p) ∧ h.2.1 48 i = jL (pHi p) ∧ h.1 49 i = mA p ∧ h.1 50 i = mB p ∧ h.1 51 i = mC p ∧ h.1 52 i = nI (pDp p) ∧ (pOp p = 2 → h.2.1 53 i = jL (pLo p)) ∧ (pOp p = 3 → h.2.1 53 i = jL (pC p : Int))
def RMt (h : zH) (o : Nat) (ps : List Pt) : Prop := ∀ i, i < ps.length → PtM h (o + i) (pget ps i)
def RM (h : zH) (σ : St) : Prop := h.1 39 28 = nI σ.1.length ∧ h.1 39 31 = nI (nst σ.1) ∧ StkW h σ.1 ∧ h.1 39 30 = nI σ.2.1.length ∧ StkY h σ.2.1 ∧ h.1 39 22 = nI σ.2.2.length ∧ RMt h 0 σ.2.2
theorem StkW.same {h h' : zH} : ∀ {ws : List Fr}, (∀ i, i < ws.length → h'.1 54 i = h.1 54 i ∧ h'.1 55 i = h.1 55 i ∧ h'.1 56 i = h.1 56 i) → StkW h ws → StkW h' ws
  | [], _, _ => trivial
  | f :: l, e, a => by
    obtain ⟨e1, e2, e3⟩ := e l.length (by simp)
    exact ⟨e1.trans a.1, e2.trans a.2.1, e3.trans a.2.2.1, StkW.same (fun i hi => e i (by simp only [List.length_cons]; omega)) a.2.2.2⟩
theorem StkY.same {h h' : zH} : ∀ {l : List Nat}, (∀ i, i < l.length → h'.1 57 i = h.1 57 i) → StkY h l → StkY h' l
  | [], _, _ => trivial
  | x :: l, e, a => ⟨(e l.length (by simp)).trans a.1, StkY.same (fun i hi => e i (by simp only [List.length_cons]; omega)) a.2⟩
theorem PtM.same {h h' : zH} {i j : Nat} {p : Pt} (e : ∀ c, 44 ≤ c → c ≤ 53 → h'.1 c j = h.1 c i ∧ h'.2.1 c j = h.2.1 c i) (a : PtM h i p) : PtM h' j p :=
  ⟨(e 44 (by decide) (by decide)).1.trans a.1, (e 45 (by decide) (by decide)).1.trans a.2.1, (e 46 (by decide) (by decide)).1.trans a.2.2.1, (e 47 (by decide) (by decide)).2.trans a.2.2.2.1, (e 48 (by decide) (by decide)).2.trans a.2.2.2.2.1, (e 49 (by decide) (by decide)).1.trans a.2.2.2.2.2.1, (e 50 (by decide) (by decide)).1.trans a.2.2.2.2.2.2.1, (e 51 (by decide) (by decide)).1.trans a.2.2.2.2.2.2.2.1, (e 52 (by decide) (by decide)).1.trans a.2.2.2.2.2.2.2.2.1, fun q => (e 53 (by decide) (by decide)).2.trans (a.2.2.2.2.2.2.2.2.2.1 q), fun q => (e 53 (by decide) (by decide)).2.trans (a.2.2.2.2.2.2.2.2.2.2 q)⟩
theorem RMt.same {h h' : zH} {o : Nat} {ps : List Pt} (e : ∀ c i, 44 ≤ c → c ≤ 53 → i < ps.length → h'.1 c (o + i) = h.1 c (o + i) ∧ h'.2.1 c (o + i) = h.2.1 c (o + i)) (a : RMt h o ps) : RMt h' o ps := fun i hi => (a i hi).same (fun c h1 h2 => e c i h1 h2 hi)
/-- the slots and rows by which the state is told -/
theorem RM.same {h h' : zH} {σ : St} (e : ∀ i, i = 22 ∨ i = 28 ∨ i = 30 ∨ i = 31 → h'.1 39 i = h.1 39 i) (e2 : ∀ c, 44 ≤ c → c ≤ 57 → h'.1 c = h.1 c ∧ h'.2.1 c = h.2.1 c) (a : RM h σ) : RM h' σ := by
  obtain ⟨a1, a2, a3, a4, a5, a6, a7⟩ := a
  exact ⟨(e 28 (by simp)).trans a1, (e 31 (by simp)).trans a2, StkW.same (h := h) (fun i _ => ⟨by rw [(e2 54 (by decide) (by decide)).1], by rw [(e2 55 (by decide) (by decide)).1], by rw [(e2 56 (by decide) (by decide)).1]⟩) a3, (e 30 (by simp)).trans a4, StkY.same (h := h) (fun i _ => by rw [(e2 57 (by decide) (by decide)).1]) a5, (e 22 (by simp)).trans a6, RMt.same (h := h) (fun c i h1 h2 _ => ⟨by rw [(e2 c h1 (by omega)).1], by rw [(e2 c h1 (by omega)).2]⟩) a7⟩
theorem RM.z39 {h : zH} {σ : St} {j : Nat} {x : Int32} (hj : ¬ (j = 22 ∨ j = 28 ∨ j = 30 ∨ j = 31)) (a : RM h σ) : RM (zi h 39 j x) σ := a.same (fun i hi => by rw [zi1, if_neg (by omega)]) (fun c h1 h2 => ⟨zi_ne (by omega), rfl⟩)
theorem RM.l39 {h : zH} {σ : St} {j : Nat} {x : Int64} (a : RM h σ) : RM (zl h 39 j x) σ := RM.same (h := h) (fun i hi => rfl) (fun c h1 h2 => ⟨rfl, zl_ne (by omega)⟩) a
def BadM (h h' : zH) (e : Nat) : Prop := FK keepC h h' ∧ h'.1 39 24 = nI e ∧ (0 < e ∧ e < 1000000) ∧ ∃ w, h'.1 39 28 = nI w ∧ w ≤ 300
def GoodM (h h' : zH) (σ : St) : Prop := FK keepC h h' ∧ RM h' σ ∧ h'.1 39 24 = 0
theorem BadM.pre {h h1 h' : zH} {e : Nat} (a : FK keepC h h1) (b : BadM h1 h' e) : BadM h h' e := ⟨a.tr b.1, b.2⟩
theorem GoodM.pre {h h1 h' : zH} {σ : St} (a : FK keepC h h1) (b : GoodM h1 h' σ) : GoodM h h' σ := ⟨a.tr b.1, b.2⟩
theorem nkC {c i : Nat} (h : ¬ keepC c i := by unfold keepC keepM; omega) : ¬ keepC c i := h
theorem BadM.ne {h h' : zH} {e : Nat} (b : BadM h h' e) : ¬ h'.1 39 24 = 0 ∧ 0 < h'.1 39 24 ∧ ¬ h'.1 39 24 ≤ 0 := by
  rw [b.2.1]
  have := b.2.2.1
  refine ⟨fun q => ?_, ?_, fun q => ?_⟩
  · have := (nI_lit (d := 0) (by omega) (by decide)).mp q; omega
  · exact (lit_lt_nI (d := 0) (by omega) (by decide)).mpr (by omega)
  · have := (nI_le_lit (d := 0) (by omega) (by decide)).mp q; omega
theorem sp_M_bad {h : zH} {a b : Nat} {post : zH → Prop} (hf : h.1 39 24 = 0) (hp : post (zi h 39 24 (nI (a + 8 * b)))) : wp_M_bad (nI a) (nI b) h post := by
  unfold wp_M_bad b_M_bad_17
  refine ⟨fun q => absurd hf q, fun _ h1 e1 => ?_⟩
  rw [e1, nI_fault]; exact hp
theorem BadM.mk {h h1 : zH} {e : Nat} {σ : St} (f : FK keepC h h1) (r : RM h1 σ) (hl : σ.1.length ≤ 197) (he : 0 < e ∧ e < 1000000) : BadM h (zi h1 39 24 (nI e)) e :=
  ⟨f.zi nkC, by simp [zi1], he, σ.1.length, by simp only [zi1]; rw [if_neg (by omega)]; exact r.1, by omega⟩
theorem sp_M_lesser {a b : Int} {h : zH} {post : Int64 → zH → Prop} (ha : sm a) (hb : sm b) (hp : post (jL (min a b)) h) : wp_M_lesser (jL a) (jL b) h post := by
  unfold wp_M_lesser b_M_lesser_11
  rw [lg_cmp_ge, j_le hb ha]
  refine ⟨fun q => by rw [Int.min_eq_right q] at hp; exact hp, fun q => by rw [Int.min_eq_left (by omega)] at hp; exact hp⟩
theorem sp_M_greater {a b : Int} {h : zH} {post : Int64 → zH → Prop} (ha : sm a) (hb : sm b) (hp : post (jL (max a b)) h) : wp_M_greater (jL a) (jL b) h post := by
  unfold wp_M_greater b_M_greater_11
  rw [lg_cmp_le, j_le ha hb]
  refine ⟨fun q => by rw [Int.max_eq_right q] at hp; exact hp, fun q => by rw [Int.max_eq_left (by omega)] at hp; exact hp⟩
theorem sp_M_size {a : Int} {h : zH} {post : Int64 → zH → Prop} (ha : sm a) (hp : post (jL (ab a)) h) : wp_M_size (jL a) h post := by
  unfold wp_M_size b_M_size_12
  have h0 : sm 0 := by unfold sm; omega
  rw [← j0, lg_cmp_ge, j_le h0 ha]
  unfold ab at hp
  refine ⟨fun q => by rw [if_neg (by omega)] at hp; exact hp, fun q => ?_⟩
  rw [if_pos (by omega)] at hp
  rw [j_neg ha (by unfold sm at *; omega)]; exact hp
theorem sp_M_ends {a b c d : Int} {h : zH} {post : zH → Prop} (ha : sm a) (hb : sm b) (hc : sm c) (hd : sm d) (hp : post (zl (zl h 39 32 (jL (mn4 a b c d))) 39 33 (jL (mx4 a b c d)))) : wp_M_ends (jL a) (jL b) (jL c) (jL d) h post := by
  unfold wp_M_ends
  refine sp_M_lesser ha hb (sp_M_lesser hc hd (sp_M_lesser (sm_min ha hb) (sm_min hc hd) fun h7 e7 => sp_M_greater ha hb (sp_M_greater hc hd (sp_M_greater (sm_max ha hb) (sm_max hc hd) fun h14 e14 => ?_))))
  rw [e14, e7]; exact hp
theorem sp_M_pop {h : zH} {ws : List Fr} {x : Nat} {l : List Nat} {ps : List Pt} {post : Int32 → zH → Prop} (r : RM h (ws, x :: l, ps)) (hl : l.length < 300) (hp : RM (zi h 39 30 (nI l.length)) (ws, l, ps) → post (nI x) (zi h 39 30 (nI l.length))) : wp_M_pop h post := by
  obtain ⟨a1, a2, a3, a4, a5, a6, a7⟩ := r
  unfold wp_M_pop
  intro h1 e1
  simp only [List.length_cons] at a4
  rw [a4, nI_pred] at e1
  have e30 : h1.1 39 30 = nI l.length := by rw [e1]; simp [zi1]
  rw [e30, nI_clamp' (by omega)]
  refine ⟨vp_in_nI hl (by decide), ?_⟩
  have e57 : h1.1 57 l.length = nI x := by rw [e1]; simp [zi1]; exact a5.1
  rw [e57, e1]
  refine hp ⟨by simp [zi1]; exact a1, by simp [zi1]; exact a2, StkW.same (h := h) (fun i _ => by simp [zi1]) a3, by simp [zi1], StkY.same (h := h) (fun i _ => by simp [zi1]) a5.2, by simp [zi1]; exact a6, RMt.same (h := h) (fun c i h1 h2 _ => ⟨by rw [zi_ne (by omega)], rfl⟩) a7⟩
/-- a part written, as yet without what it takes -/
def PtQ (h : zH) (i : Nat) (op pl kd : Int32) (lo hi : Int64) : Prop := h.1 44 i = op ∧ h.1 45 i = pl ∧ h.1 46 i = kd ∧ h.2.1 47 i = lo ∧ h.2.1 48 i = hi ∧ h.1 49 i = -1 ∧ h.1 50 i = -1 ∧ h.1 51 i = -1 ∧ h.1 52 i = 1 ∧ h.2.1 53 i = h.2.1 39 11
set_option maxHeartbeats 2000000 in
theorem sp_M_part5 {h : zH} {σ : St} {op kd : Int32} {pl : Nat} {lo hi : Int64} {post : Int32 → zH → Prop} (r : RM h σ) (hf : h.1 39 24 = 0) (hl : σ.2.2.length ≤ 100) (hpl : pl < 100000) (hw : σ.1.length ≤ 197)
    (hbad : σ.2.2.length = 100 → post 0 (zi h 39 24 (nI (6 + 8 * pl))))
    (hgood : σ.2.2.length < 100 → ∀ h', FK keepC h h' → (∀ i, i = 24 ∨ i = 28 ∨ i = 30 ∨ i = 31 → h'.1 39 i = h.1 39 i) → (∀ c, 54 ≤ c → h'.1 c = h.1 c) → (∀ c i, 44 ≤ c → c ≤ 53 → i < σ.2.2.length → h'.1 c i = h.1 c i ∧ h'.2.1 c i = h.2.1 c i) → h'.1 39 22 = nI (σ.2.2.length + 1) → PtQ h' σ.2.2.length op (nI pl) kd lo hi → post (nI σ.2.2.length) h') : wp_M_part5 op (nI pl) kd lo hi h post := by
  unfold wp_M_part5
  refine ⟨fun q => absurd hf q, fun _ => ?_⟩
  have e22 := r.2.2.2.2.2.1
  rw [e22]
  refine ⟨fun q => ?_, fun q => ?_⟩
  · have hlt : σ.2.2.length < 100 := by
      by_cases c : σ.2.2.length = 100
      · exact absurd (by rw [c]; rfl) q
      · omega
    unfold b_M_part5_23
    rw [hf]
    refine ⟨fun _ => ?_, fun z => absurd (by decide) z⟩
    generalize σ.2.2.length = n at *
    have hn : n < 2147483648 := by omega
    have hin : vp_in (nI n) 200 := vp_in_nI (by omega) (by decide)
    rw [e22]
    refine ⟨hin, fun h1 g1 => ?_⟩
    rw [nI_clamp' hn] at g1
    have e1 : h1.1 39 22 = nI n := by rw [g1]; simp [zi1, e22]
    rw [e1]
    refine ⟨hin, fun h2 g2 => ?_⟩
    rw [nI_clamp' hn] at g2
    have e2 : h2.1 39 22 = nI n := by rw [g2]; simp [zi1, e1]
    rw [e2]
    refine ⟨hin, fun h3 g3 => ?_⟩
    rw [nI_clamp' hn] at g3
    have e3 : h3.1 39 22 = nI n := by rw [g3]; simp [zi1, e2]
    rw [e3]
    refine ⟨hin, fun h4 g4 => ?_⟩
    rw [nI_clamp' hn] at g4
    have e4 : h4.1 39 22 = nI n := by rw [g4, zl1]; exact e3
    rw [e4]
    refine ⟨hin, fun h5 g5 => ?_⟩
    rw [nI_clamp' hn] at g5
    have e5 : h5.1 39 22 = nI n := by rw [g5, zl1]; exact e4
    rw [e5]
    refine ⟨hin, fun h6 g6 => ?_⟩
    rw [nI_clamp' hn] at g6
    have e6 : h6.1 39 22 = nI n := by rw [g6]; simp [zi1, e5]
    rw [e6]
    refine ⟨hin, fun h7 g7 => ?_⟩
    rw [nI_clamp' hn] at g7
    have e7 : h7.1 39 22 = nI n := by rw [g7]; simp [zi1, e6]
    rw [e7]
    refine ⟨hin, fun h8 g8 => ?_⟩
    rw [nI_clamp' hn] at g8
    have e8 : h8.1 39 22 = nI n := by rw [g8]; simp [zi1, e7]
    rw [e8]
    refine ⟨hin, fun h9 g9 => ?_⟩
    rw [nI_clamp' hn] at g9
    have e9 : h9.1 39 22 = nI n := by rw [g9]; simp [zi1, e8]
    rw [e9]
    refine ⟨hin, fun h10 g10 h11 g11 => ?_⟩
    rw [nI_clamp' hn] at g10
    have e10 : h10.1 39 22 = nI n := by rw [g10, zl1]; exact e9
    rw [e10, nI_1] at g11
    have e11 : h11.1 39 22 = nI (n + 1) := by rw [g11]; simp [zi1]
    rw [e11, nI_pred]
    have l11 : h9.2.1 39 11 = h.2.1 39 11 := by rw [g9, g8, g7, g6, g5, g4, g3, g2, g1]; simp [zi2, zl2]
    refine hgood hlt h11 ?_ ?_ ?_ ?_ e11 ?_
    · rw [g11, g10, g9, g8, g7, g6, g5, g4, g3, g2, g1]
      exact ((((((((((FK.rf.zi nkC).zi nkC).zi nkC).zl nkC).zl nkC).zi nkC).zi nkC).zi nkC).zi nkC).zl nkC).zi nkC
    · intro i hi
      have : ¬ i = 22 := by omega
      rw [g11, g10, g9, g8, g7, g6, g5, g4, g3, g2, g1]; simp [zi1, zl1, this]
    · intro c hc
      rw [g11, zi_ne (by omega), g10, zl1, g9, zi_ne (by omega), g8, zi_ne (by omega), g7, zi_ne (by omega), g6, zi_ne (by omega), g5, zl1, g4, zl1, g3, zi_ne (by omega), g2, zi_ne (by omega), g1, zi_ne (by omega)]
    · intro c i h1 h2 hi
      have hne : ¬ i = n := by omega
      rw [g11, g10, g9, g8, g7, g6, g5, g4, g3, g2, g1]
      refine ⟨?_, ?_⟩
      · simp only [zi1, zl1, hne, and_false, if_false]
        rw [if_neg (by omega)]
      · simp only [zi2, zl2, hne, and_false, if_false]
    · rw [g11, g10, g9, g8, g7, g6, g5, g4, g3, g2, g1]
      refine ⟨?_, ?_, ?_, ?_, ?_, ?_, ?_, ?_, ?_, ?_⟩ <;> simp [zi1, zi2, zl1, zl2]
  · have hq : σ.2.2.length = 100 := (nI_lit (d := 100) (by omega) (by decide)).mp q
    refine sp_M_bad (a := 6) hf ?_
    unfold b_M_part5_23
    refine ⟨fun z => ?_, fun _ => hbad hq⟩
    exfalso
    have e : (zi h 39 24 (nI (6 + 8 * pl))).1 39 24 = nI (6 + 8 * pl) := by simp [zi1]
    rw [e] at z
    have := (nI_le_lit (d := 0) (by omega) (by decide)).mp z
    omega
theorem sp_M_push {h : zH} {n x : Nat} {post : zH → Prop} (e : h.1 39 30 = nI n) (hn : n < 300) (hp : post (zi (zi h 57 n (nI x)) 39 30 (nI (n + 1)))) : wp_M_push (nI x) h post := by
  unfold wp_M_push
  rw [e]
  refine ⟨vp_in_nI hn (by decide), fun h1 e1 h2 e2 => ?_⟩
  rw [nI_clamp' (by omega)] at e1
  have e3 : h1.1 39 30 = nI n := by rw [e1]; simp [zi1, e]
  rw [e3, nI_1] at e2
  rw [e2, e1]; exact hp
