/-! THE REFERENCE'S STACKS -/
def topR : List Fr → Int32
  | [] => 0
  | f :: _ => nI (rop f.1)
theorem sp_M_topOp {h : zH} {σ : St} {post : Int32 → zH → Prop} (a : RM h σ) (hl : σ.1.length ≤ 197) (hp : post (topR σ.1) h) : wp_M_topOp h post := by
  obtain ⟨ws, q⟩ := σ
  unfold wp_M_topOp b_M_topOp_22
  have e := a.1
  simp only at e hp hl
  rw [e]
  cases ws with
  | nil => exact ⟨fun z => absurd rfl z, fun _ => hp⟩
  | cons f l =>
    simp only [List.length_cons] at e hl ⊢
    refine ⟨fun _ => ?_, fun z => absurd ((nI_lit (d := 0) (by omega) (by decide)).mp z) (by omega)⟩
    rw [nI_pred, nI_clamp' (by omega)]
    refine ⟨vp_in_nI (by omega) (by decide), ?_⟩
    have : h.1 54 l.length = nI (rop f.1) := a.2.2.1.1
    rw [this]; exact hp
theorem sp_M_topOp_bad {h : zH} {w : Nat} {post : Int32 → zH → Prop} (e : h.1 39 28 = nI w) (hw : w ≤ 300) (hp : ∀ x, post x h) : wp_M_topOp h post := by
  unfold wp_M_topOp b_M_topOp_22
  rw [e]
  refine ⟨fun z => ?_, fun _ => hp _⟩
  cases w with
  | zero => exact absurd rfl z
  | succ w => rw [nI_pred]; exact ⟨vp_in_nI (by omega) (by decide), hp _⟩
theorem sp_M_rank_any {x : Int32} {h : zH} {post : Int32 → zH → Prop} (hp : ∀ r, post r h) : wp_M_rank x h post := by
  unfold wp_M_rank b_M_rank_116 b_M_rank_119 b_M_rank_121
  simp [hp]
theorem sp_M_rank0 {h : zH} {post : Int32 → zH → Prop} (hp : post 0 h) : wp_M_rank 0 h post := by
  unfold wp_M_rank b_M_rank_116 b_M_rank_119 b_M_rank_121
  simpa using hp
theorem RM.pop0 {h : zH} {f : Fr} {l : List Fr} {q : List Nat × List Pt} (a : RM h (f :: l, q)) (hn : nsts f.1 = false) : RM (zi h 39 28 (nI l.length)) (l, q) := by
  obtain ⟨a1, a2, a3, a4, a5, a6, a7⟩ := a
  have e1 : nst (f :: l) = nst l := by show (if nsts f.1 = true then 1 else 0) + nst l = nst l; rw [hn]; simp
  simp only at a2
  rw [e1] at a2
  refine ⟨by simp [zi1], by simp [zi1]; exact a2, StkW.same (h := h) (fun i _ => by simp [zi1]) a3.2.2.2, by simp [zi1]; exact a4, StkY.same (h := h) (fun i _ => by simp [zi1]) a5, by simp [zi1]; exact a6, RMt.same (h := h) (fun c i h1 h2 _ => ⟨by rw [zi_ne (by omega)], rfl⟩) a7⟩
theorem RM.pop1 {h : zH} {f : Fr} {l : List Fr} {q : List Nat × List Pt} (a : RM h (f :: l, q)) : RM (zi (zi h 39 28 (nI l.length)) 39 31 (nI (nst l))) (l, q) := by
  obtain ⟨a1, a2, a3, a4, a5, a6, a7⟩ := a
  refine ⟨by simp [zi1], by simp [zi1], StkW.same (h := h) (fun i _ => by simp [zi1]) a3.2.2.2, by simp [zi1]; exact a4, StkY.same (h := h) (fun i _ => by simp [zi1]) a5, by simp [zi1]; exact a6, RMt.same (h := h) (fun c i h1 h2 _ => ⟨by rw [zi_ne (by omega), zi_ne (by omega)], rfl⟩) a7⟩
theorem nst1 {f : Fr} {l : List Fr} (hn : nsts f.1 = true) : nst (f :: l) = nst l + 1 := by show (if nsts f.1 = true then 1 else 0) + nst l = nst l + 1; rw [hn, if_pos rfl]; omega
theorem stg_rk {op : Nat} (h : op < 28) : (isBin op = true ∧ (rk op : Int) = stg op + 1 ∧ two op) ∨ (isBin op = false ∧ rk op = 0 ∧ (stg op < 1 ∨ stg op = 6)) := by
  refine c28 (P := fun op => (isBin op = true ∧ (rk op : Int) = stg op + 1 ∧ two op) ∨ (isBin op = false ∧ rk op = 0 ∧ (stg op < 1 ∨ stg op = 6))) h ?_
  unfold two
  repeat' apply And.intro
  all_goals decide
theorem combBin {op pl : Nat} {pile : List Nat} {ps : List Pt} (h : two op) : comb op pl pile ps = comb2 op pl pile ps := by
  unfold two at h
  unfold comb
  rw [if_neg (by omega), if_neg (by omega)]
theorem combOne {op pl : Nat} {pile : List Nat} {ps : List Pt} (h : op = 20 ∨ op = 25 ∨ op = 26) : comb op pl pile ps = comb1 op pl pile ps := by
  unfold comb
  rw [if_neg (by omega), if_pos h]
theorem combThree {pl : Nat} {pile : List Nat} {ps : List Pt} : comb 27 pl pile ps = comb3 pl pile ps := by
  unfold comb
  rw [if_pos rfl]
theorem Fok.top {f : Fr} {l : List Fr} (h : Fok (f :: l)) : FrOk f := h.1 f List.mem_cons_self
/-- an operator with two parts, taken off and done -/
theorem two_done {h h5 : zH} {f : Fr} {l : List Fr} {pile : List Nat} {ps : List Pt} {post : zH → Prop} (a5 : RM h5 (l, pile, ps)) (f5 : FK keepC h h5) (z5 : h5.1 39 24 = 0) (hI : Iv (f :: l, pile, ps)) (hb : isBin f.1 = true)
    (hbad : ∀ e h', comb f.1 f.2.1 pile ps = .error e → BadM h h' e → post h') (hgood : ∀ q h', comb f.1 f.2.1 pile ps = .ok q → GoodM h h' (l, q) → post h') : wp_M_doTwo (nI (rop f.1)) (nI f.2.1) h5 post := by
  obtain ⟨⟨z1, z2, z3, z4⟩, hB, hPi, hn, hpl⟩ := hI
  simp only [List.length_cons] at z1 z2 z3 hn hB hPi
  have ht : two f.1 := by unfold isBin at hb; unfold two; simp at hb; omega
  have e1 : nd1 f = 1 := by unfold nd1; rw [if_neg (by unfold two at ht; omega), if_pos (Or.inl hb)]
  have e2 : nd (f :: l) = nd1 f + nd l := rfl
  have hp9 := hpl f List.mem_cons_self
  match pile, a5, hPi, hn, z2, hbad, hgood with
  | [], _, _, hn, _, _, _ => simp only [List.length_nil] at hn; omega
  | [_], _, _, hn, _, _, _ => simp only [List.length_cons, List.length_nil] at hn; omega
  | r :: x :: t, a5, hPi, hn, z2, hbad, hgood =>
    simp only [List.length_cons] at hn z2
    rw [combBin ht] at hbad hgood
    exact sp_M_doTwo a5 z5 ht hB z3 (by omega) (by omega) hp9 (hPi x (by simp)) (hPi r (by simp)) (fun e h' c b => hbad e h' c (b.pre f5)) (fun q h' c b => hgood q h' c (b.pre f5))
theorem one_done {h h5 : zH} {f : Fr} {l : List Fr} {pile : List Nat} {ps : List Pt} {post : zH → Prop} (a5 : RM h5 (l, pile, ps)) (f5 : FK keepC h h5) (z5 : h5.1 39 24 = 0) (hI : Iv (f :: l, pile, ps)) (hb : f.1 = 20 ∨ f.1 = 25 ∨ f.1 = 26)
    (hbad : ∀ e h', comb f.1 f.2.1 pile ps = .error e → BadM h h' e → post h') (hgood : ∀ q h', comb f.1 f.2.1 pile ps = .ok q → GoodM h h' (l, q) → post h') : wp_M_doOne (nI (rop f.1)) (nI f.2.1) h5 post := by
  obtain ⟨⟨z1, z2, z3, z4⟩, hB, hPi, hn, hpl⟩ := hI
  simp only [List.length_cons] at z1 z2 z3 hn hB hPi
  have hp9 := hpl f List.mem_cons_self
  match pile, a5, hPi, hn, z2, hbad, hgood with
  | [], _, _, hn, _, _, _ => simp only [List.length_nil] at hn; omega
  | x :: t, a5, hPi, hn, z2, hbad, hgood =>
    simp only [List.length_cons] at hn z2
    rw [combOne hb] at hbad hgood
    exact sp_M_doOne a5 z5 hb hB z3 (by omega) (by omega) hp9 (hPi x (by simp)) (fun e h' c b => hbad e h' c (b.pre f5)) (fun q h' c b => hgood q h' c (b.pre f5))
theorem choice_done {h h5 : zH} {f : Fr} {l : List Fr} {pile : List Nat} {ps : List Pt} {post : zH → Prop} (a5 : RM h5 (l, pile, ps)) (f5 : FK keepC h h5) (z5 : h5.1 39 24 = 0) (hI : Iv (f :: l, pile, ps)) (hb : f.1 = 27)
    (hbad : ∀ e h', comb f.1 f.2.1 pile ps = .error e → BadM h h' e → post h') (hgood : ∀ q h', comb f.1 f.2.1 pile ps = .ok q → GoodM h h' (l, q) → post h') : wp_M_doChoice (nI f.2.1) h5 post := by
  obtain ⟨⟨z1, z2, z3, z4⟩, hB, hPi, hn, hpl⟩ := hI
  simp only [List.length_cons] at z1 z2 z3 hn hB hPi
  have hp9 := hpl f List.mem_cons_self
  have e1 : nd1 f = 2 := by unfold nd1; rw [if_pos hb]
  have e2 : nd (f :: l) = nd1 f + nd l := rfl
  rw [hb, combThree] at hbad hgood
  match pile, a5, hPi, hn, z2, hbad, hgood with
  | [], _, _, hn, _, _, _ => simp only [List.length_nil] at hn; omega
  | [_], _, _, hn, _, _, _ => simp only [List.length_cons, List.length_nil] at hn; omega
  | [_, _], _, _, hn, _, _, _ => simp only [List.length_cons, List.length_nil] at hn; omega
  | z :: y :: x :: t, a5, hPi, hn, z2, hbad, hgood =>
    simp only [List.length_cons] at hn z2
    exact sp_M_doChoice a5 z5 hB z3 (by omega) (by omega) hp9 (hPi x (by simp)) (hPi y (by simp)) (hPi z (by simp)) (fun e h' c b => hbad e h' c (b.pre f5)) (fun q h' c b => hgood q h' c (b.pre f5))
theorem sp_doAll {r : Nat} {s : Int} {post : zH → Prop} (hrs : (r = 1 ∧ s = 1) ∨ (2 ≤ r ∧ r ≤ 6 ∧ s = r - 1)) : ∀ (ws : List Fr) (pile : List Nat) (ps : List Pt) (h : zH) (m : Nat), ws.length < m → RM h (ws, pile, ps) → Iv (ws, pile, ps) → Fok ws → topS ws < 6 → h.1 39 24 = 0 →
    (∀ e h', stl s ws pile ps = .error e → BadM h h' e → post h') → (∀ σ h', stl s ws pile ps = .ok σ → GoodM h h' σ → post h') → b_M_doAll_0 post m (nI r) h := by
  intro ws
  induction ws with
  | nil =>
    intro pile ps h m hm a hI hF hT hf hbad hgood
    cases m with
    | zero => omega
    | succ m =>
      unfold b_M_doAll_0 b_M_doAll_60
      refine ⟨fun q => absurd hf q, fun _ => sp_M_topOp a (by simp) (sp_M_rank0 ?_)⟩
      have g : post h := hgood ([], pile, ps) h rfl ⟨FK.rf, a, hf⟩
      have e := a.1
      simp only [List.length_nil] at e
      refine ⟨fun _ => g, fun _ => ⟨fun _ => g, fun q => ?_⟩⟩
      exact absurd (by rw [e]; decide) q
  | cons f l ih =>
    intro pile ps h m hm a hI hF hT hf hbad hgood
    cases m with
    | zero => omega
    | succ m =>
      have hl := hF.len
      have hT' : stg f.1 < 6 := hT
      have hlt : f.1 < 28 := by have := hF.top.1; omega
      simp only [List.length_cons] at hm hl
      unfold b_M_doAll_0 b_M_doAll_60
      refine ⟨fun q => absurd hf q, fun _ => sp_M_topOp a (by simp only [List.length_cons]; omega) ?_⟩
      show wp_M_rank (nI (rop f.1)) h _
      refine sp_M_rank hlt ?_
      have hs := stg_rk hlt
      have sr := stg_rng f.1
      rw [nI_ltI (by omega) (by omega)]
      refine ⟨fun q => hgood (f :: l, pile, ps) h (by rw [stl, if_neg (by omega)]) ⟨FK.rf, a, hf⟩, fun q => ?_⟩
      have hb : isBin f.1 = true := by
        rcases hs with hs | hs
        · exact hs.1
        · omega
      have bs := isBin_stg hb
      have hsg : s ≤ stg f.1 := by
        rcases hs with hs | hs
        · omega
        · omega
      have e28 : h.1 39 28 = nI (l.length + 1) := a.1
      rw [e28]
      refine ⟨fun q => absurd q (nI_nle (by omega) (by omega)), fun _ h5 g5 => ?_⟩
      rw [nI_pred] at g5
      have a5 : RM h5 (l, pile, ps) := by rw [g5]; exact a.pop0 bs.2.2.2.2
      have f5 : FK keepC h h5 := by rw [g5]; exact FK.rf.zi nkC
      have z5 : h5.1 39 24 = 0 := by rw [g5]; simp [zi1, hf]
      have u1 : h5.1 54 l.length = nI (rop f.1) := by rw [g5]; simp [zi1]; exact a.2.2.1.1
      have u2 : h5.1 55 l.length = nI f.2.1 := by rw [g5]; simp [zi1]; exact a.2.2.1.2.1
      have e5 : h5.1 39 28 = nI l.length := a5.1
      rw [e5, nI_clamp' (by omega), u1, u2]
      refine ⟨vp_in_nI (by omega) (by decide), vp_in_nI (by omega) (by decide), two_done a5 f5 z5 hI hb (fun e h' c b => ?_) (fun q' h' c b => ?_)⟩
      · have el : stl s (f :: l) pile ps = .error e := by rw [stl, if_pos hsg, c]
        cases m with
        | zero => omega
        | succ m =>
          unfold b_M_doAll_0 b_M_doAll_60
          exact ⟨fun _ => hbad e h' el b, fun q9 => absurd q9 b.ne.1⟩
      · have el : ∀ x, stl s l q'.1 q'.2 = x → stl s (f :: l) pile ps = x := by intro x hx; rw [stl, if_pos hsg, c]; exact hx
        have tl : topS l < 6 := by have := hF.2.1.2.1 hb; omega
        refine ih q'.1 q'.2 h' m (by omega) b.2.1 (hI.step (by omega) c) hF.tail tl b.2.2 ?_ ?_
        · intro e h9 d1 d2; exact hbad e h9 (el _ d1) (d2.pre b.1)
        · intro σ h9 d1 d2; exact hgood σ h9 (el _ d1) (d2.pre b.1)
theorem sp_M_doAll {h : zH} {r : Nat} {s : Int} {σ : St} {post : zH → Prop} (hrs : (r = 1 ∧ s = 1) ∨ (2 ≤ r ∧ r ≤ 6 ∧ s = r - 1)) (a : RM h σ) (hI : Iw 2 σ) (hT : topS σ.1 < 6) (hf : h.1 39 24 = 0)
    (hbad : ∀ e h', stl s σ.1 σ.2.1 σ.2.2 = .error e → BadM h h' e → post h') (hgood : ∀ σ' h', stl s σ.1 σ.2.1 σ.2.2 = .ok σ' → GoodM h h' σ' → post h') : wp_M_doAll (nI r) h post :=
  ⟨σ.1.length + 1, sp_doAll hrs σ.1 σ.2.1 σ.2.2 h _ (by omega) a hI.iv hI.1 hT hf hbad hgood⟩
theorem sp_M_doAll_bad {h : zH} {x : Int32} {post : zH → Prop} (hf : ¬ h.1 39 24 = 0) (hp : post h) : wp_M_doAll x h post := by
  refine ⟨1, ?_⟩
  unfold b_M_doAll_0 b_M_doAll_60
  exact ⟨fun _ => hp, fun q => absurd q hf⟩
theorem stg5 {op : Nat} (h : op = 4 ∨ op = 7 ∨ (9 ≤ op ∧ op ≤ 27)) : (5 ≤ stg op ↔ op = 26 ∨ op = 20 ∨ rk op = 6) ∧ (rk op = 6 → isBin op = true ∧ nsts op = false) ∧ (op = 26 ∨ op = 20 → ¬ rk op = 6 ∧ nsts op = true) := by
  have hb : op < 28 := by omega
  revert h
  refine c28 (P := fun op => (op = 4 ∨ op = 7 ∨ (9 ≤ op ∧ op ≤ 27)) → (5 ≤ stg op ↔ op = 26 ∨ op = 20 ∨ rk op = 6) ∧ (rk op = 6 → isBin op = true ∧ nsts op = false) ∧ (op = 26 ∨ op = 20 → ¬ rk op = 6 ∧ nsts op = true)) hb ?_
  repeat' apply And.intro
  all_goals decide
theorem rk_le (op : Nat) : rk op ≤ 6 := by
  unfold rk; repeat' split
  all_goals omega
theorem sp_wasRead {post : zH → Prop} : ∀ (ws : List Fr) (pile : List Nat) (ps : List Pt) (h : zH) (m : Nat), ws.length < m → RM h (ws, pile, ps) → Iv (ws, pile, ps) → Fok ws → h.1 39 24 = 0 →
    (∀ e h', stl 5 ws pile ps = .error e → BadM h h' e → post h') → (∀ σ h', stl 5 ws pile ps = .ok σ → GoodM h h' σ → post h') → b_M_wasRead_2 post m 1 h := by
  intro ws
  induction ws with
  | nil =>
    intro pile ps h m hm a hI hF hf hbad hgood
    cases m with
    | zero => omega
    | succ m =>
      unfold b_M_wasRead_2 b_M_wasRead_120
      have g : post h := hgood ([], pile, ps) h rfl ⟨FK.rf, a, hf⟩
      have e : h.1 39 28 = nI 0 := a.1
      refine ⟨fun q => absurd q (by decide), fun _ => ⟨fun q => absurd hf q, fun _ => sp_M_topOp a (by simp) ⟨fun q => absurd (by rw [e]; rfl) q, fun _ => ?_⟩⟩⟩
      show b_M_wasRead_40 post _ 0 0 h
      unfold b_M_wasRead_40 b_M_wasRead_67
      refine ⟨fun q => absurd q (by decide), fun _ => ⟨fun q => absurd q (by decide), fun _ => sp_M_rank0 ⟨fun _ => ⟨fun q => absurd rfl q, fun _ => g⟩, fun q => absurd q (by decide)⟩⟩⟩
  | cons f l ih =>
    intro pile ps h m hm a hI hF hf hbad hgood
    cases m with
    | zero => omega
    | succ m =>
      have hl := hF.len
      have hlt : f.1 < 28 := by have := hF.top.1; omega
      simp only [List.length_cons] at hm hl
      have s5 := stg5 hF.top.1
      have rl := rk_le f.1
      have e28 : h.1 39 28 = nI (l.length + 1) := a.1
      have u2 : h.1 55 l.length = nI f.2.1 := a.2.2.1.2.1
      have e26 : nI (rop f.1) = 100 ↔ f.1 = 26 := ropI 26 hlt
      have e20 : nI (rop f.1) = 33 ↔ f.1 = 20 := ropI 20 hlt
      have again : ∀ e h', comb f.1 f.2.1 pile ps = .error e → 5 ≤ stg f.1 → BadM h h' e → b_M_wasRead_2 post m 1 h' := by
        intro e h' c hs b
        have el : stl 5 (f :: l) pile ps = .error e := by rw [stl, if_pos hs, c]
        cases m with
        | zero => omega
        | succ m =>
          unfold b_M_wasRead_2 b_M_wasRead_120
          exact ⟨fun _ => hbad e h' el b, fun _ => ⟨fun _ => hbad e h' el b, fun q9 => absurd q9 b.ne.1⟩⟩
      have goon : ∀ q' h', comb f.1 f.2.1 pile ps = .ok q' → 5 ≤ stg f.1 → GoodM h h' (l, q') → b_M_wasRead_2 post m 1 h' := by
        intro q' h' c hs b
        have el : ∀ x, stl 5 l q'.1 q'.2 = x → stl 5 (f :: l) pile ps = x := by intro x hx; rw [stl, if_pos hs, c]; exact hx
        refine ih q'.1 q'.2 h' m (by omega) b.2.1 (hI.step (by omega) c) hF.tail b.2.2 ?_ ?_
        · intro e h9 d1 d2; exact hbad e h9 (el _ d1) (d2.pre b.1)
        · intro σ h9 d1 d2; exact hgood σ h9 (el _ d1) (d2.pre b.1)
      unfold b_M_wasRead_2 b_M_wasRead_120
      refine ⟨fun q => absurd q (by decide), fun _ => ⟨fun q => absurd hf q, fun _ => sp_M_topOp a (by simp only [List.length_cons]; omega) ?_⟩⟩
      rw [e28]
      refine ⟨fun _ => ?_, fun q => absurd ((nI_lit (d := 0) (by omega) (by decide)).mp q) (by omega)⟩
      rw [nI_pred, nI_clamp' (by omega), u2]
      refine ⟨vp_in_nI (by omega) (by decide), ?_⟩
      show b_M_wasRead_40 post _ (nI (rop f.1)) (nI f.2.1) h
      have b62 : 5 ≤ stg f.1 → b_M_wasRead_62 post (b_M_wasRead_2 post m) (nI (rop f.1)) (nI f.2.1) h := by
        intro hs
        unfold b_M_wasRead_62 b_M_wasRead_67 b_M_wasRead_117
        refine ⟨fun _ h1 g1 => sp_M_rank hlt ?_, fun q => absurd q (by decide)⟩
        rw [nI_lit (d := 6) (by omega) (by decide)]
        rw [e28, nI_pred] at g1
        refine ⟨fun q h4 g4 => ?_, fun q => ?_⟩
        · have hb : f.1 = 26 ∨ f.1 = 20 := by have := s5.1.mp hs; omega
          have hn := (s5.2.2 hb).2
          have e31 : h1.1 39 31 = nI (nst l + 1) := by rw [g1]; simp [zi1]; rw [← nst1 hn]; exact a.2.1
          rw [e31, nI_pred] at g4
          have a4 : RM h4 (l, pile, ps) := by rw [g4, g1]; exact a.pop1
          have f4 : FK keepC h h4 := by rw [g4, g1]; exact (FK.rf.zi nkC).zi nkC
          have z4 : h4.1 39 24 = 0 := by rw [g4, g1]; simp [zi1, hf]
          exact one_done a4 f4 z4 hI (by omega) (fun e h' c b => again e h' c hs b) (fun q' h' c b => goon q' h' c hs b)
        · obtain ⟨hb, hn⟩ := s5.2.1 q
          have a1 : RM h1 (l, pile, ps) := by rw [g1]; exact a.pop0 hn
          have f1 : FK keepC h h1 := by rw [g1]; exact FK.rf.zi nkC
          have z1 : h1.1 39 24 = 0 := by rw [g1]; simp [zi1, hf]
          exact two_done a1 f1 z1 hI hb (fun e h' c b => again e h' c hs b) (fun q' h' c b => goon q' h' c hs b)
      unfold b_M_wasRead_40
      rw [e26, e20]
      refine ⟨fun q => b62 (s5.1.mpr (by omega)), fun q1 => ⟨fun q => b62 (s5.1.mpr (by omega)), fun q2 => sp_M_rank hlt ?_⟩⟩
      rw [nI_lit (d := 6) (by omega) (by decide)]
      refine ⟨fun q => ?_, fun q => b62 (s5.1.mpr (by omega))⟩
      unfold b_M_wasRead_67
      refine ⟨fun q => absurd rfl q, fun _ => hgood (f :: l, pile, ps) h ?_ ⟨FK.rf, a, hf⟩⟩
      rw [stl, if_neg (fun z => by have := s5.1.mp z; omega)]
theorem sp_M_wasRead {h : zH} {σ : St} {post : zH → Prop} (a : RM h σ) (hI : Iw 2 σ) (hf : h.1 39 24 = 0)
    (hbad : ∀ e h', stl 5 σ.1 σ.2.1 σ.2.2 = .error e → BadM h h' e → post h') (hgood : ∀ σ' h', stl 5 σ.1 σ.2.1 σ.2.2 = .ok σ' → GoodM h h' σ' → post h') : wp_M_wasRead h post :=
  ⟨σ.1.length + 1, sp_wasRead σ.1 σ.2.1 σ.2.2 h _ (by omega) a hI.iv hI.1 hf hbad hgood⟩
