theorem sp_M_bad_bad {h : zH} {x y : Int32} {post : zH → Prop} (hf : ¬ h.1 39 24 = 0) (hp : post h) : wp_M_bad x y h post := by
  unfold wp_M_bad b_M_bad_17
  exact ⟨fun _ => hp, fun q => absurd q hf⟩
theorem keep9 : keepC 39 9 := by unfold keepC; omega
theorem keep8 : keepC 39 8 := by unfold keepC; omega
theorem endT_stl {t : Tk} {σ σ1 : St} {r : Int} (hr : 0 ≤ r) (h : stl r σ.1 σ.2.1 σ.2.2 = .ok σ1) : endT t σ1 = endT t σ := by
  have := stl_stl_ok (r := 0) (r' := r) hr _ _ _ _ h
  unfold endT
  rw [this]
theorem endT_ster {t : Tk} {σ : St} {r : Int} {e : Nat} (hr : 0 ≤ r) (h : stl r σ.1 σ.2.1 σ.2.2 = .error e) : endT t σ = .error e := by
  have := stl_stl_er (r := 0) (r' := r) hr _ _ _ _ h
  unfold endT
  rw [this]
theorem endT_nil {t : Tk} {σ : St} {q : List Nat × List Pt} (c : stl 0 σ.1 σ.2.1 σ.2.2 = .ok ([], q)) : endT t σ = if t.1 = 1 then .ok (3, [], q) else .error (1 + 8 * t.2.1) := by
  unfold endT
  rw [c]
theorem endT_full {t : Tk} {σ : St} {f : Fr} {l : List Fr} {q : List Nat × List Pt} (c : stl 0 σ.1 σ.2.1 σ.2.2 = .ok (f :: l, q)) (hf : fullF f) : endT t σ = (match comb f.1 f.2.1 q.1 q.2 with
      | .error e => .error e
      | .ok q2 => if t.1 = 5 then .ok (2, l, q2) else .error (1 + 8 * t.2.1)) := by
  obtain ⟨op, pl, cn⟩ := f
  unfold endT
  rw [c]
  unfold fullF at hf
  simp only at hf ⊢
  rw [if_pos hf]
  cases comb op pl q.1 q.2 <;> rfl
theorem endT_rest {t : Tk} {σ : St} {f : Fr} {l : List Fr} {q : List Nat × List Pt} (c : stl 0 σ.1 σ.2.1 σ.2.2 = .ok (f :: l, q)) (hf : ¬ fullF f) : endT t σ = if f.1 = 4 then (if t.1 = 5 then .ok (2, l, q) else .error (1 + 8 * t.2.1))
    else if f.1 = 7 then (if t.1 = 8 then .ok (0, (27, f.2.1, 0) :: l, q) else .error (1 + 8 * t.2.1))
    else (if t.1 = 6 then .ok (0, (f.1, f.2.1, 1) :: l, q) else .error (1 + 8 * t.2.1)) := by
  obtain ⟨op, pl, cn⟩ := f
  unfold endT
  rw [c]
  unfold fullF at hf
  simp only at hf ⊢
  rw [if_neg hf]
theorem nfull {f : Fr} (h : ¬ fnF f) : ¬ fullF f := by unfold fnF at h; unfold fullF; omega
theorem sp_tfail {h : zH} {σ : St} {t : Tk} {post : zH → Prop} (a : RM h σ) (hI : Iw 2 σ) (hT : topS σ.1 < 6) (hf : h.1 39 24 = 0) (e9 : h.1 39 9 = nI t.2.1) (hpl : t.2.1 < 100000) (h1 : t.1 ≠ 1) (h5 : t.1 ≠ 5) (h6 : t.1 ≠ 6) (h8 : t.1 = 8 → ∀ f l q, stl 0 σ.1 σ.2.1 σ.2.2 = .ok (f :: l, q) → f.1 ≠ 7)
    (hp : ∀ e h', endT t σ = .error e → BadM h h' e → post h') : wp_M_termEnds h (fun h8 => wp_M_bad 1 (h8.1 39 9) h8 post) := by
  have fin : ∀ (h' : zH) (σ' : St), GoodM h h' σ' → σ'.1.length ≤ 197 → endT t σ = .error (1 + 8 * t.2.1) → wp_M_bad 1 (h'.1 39 9) h' post := by
    intro h' σ' b hl he
    rw [(b.1 39 9 keep9).1, e9]
    exact sp_M_bad (a := 1) b.2.2 (hp _ _ he (BadM.mk b.1 b.2.1 hl (by omega)))
  have len : ∀ f l q, stl 0 σ.1 σ.2.1 σ.2.2 = .ok (f :: l, q) → l.length < 197 := by
    intro f l q c
    have := (hI.1.settled c).len
    simp only [List.length_cons] at this
    omega
  refine sp_M_termEnds a hI hT hf ?_ ?_ ?_ ?_ ?_ ?_
  · intro e h' c b
    exact sp_M_bad_bad b.ne.1 (hp e h' (endT_ster (by decide) c) b)
  · intro q h' c b
    exact fin h' _ b (by simp) (by rw [endT_nil c, if_neg h1])
  · intro f l q h' c hn b
    have := len f l q c
    refine fin h' _ b (by simp only [List.length_cons]; omega) ?_
    rw [endT_rest c (nfull hn), if_neg h5, if_neg h6]
    by_cases c4 : f.1 = 4
    · rw [if_pos c4]
    · rw [if_neg c4]
      by_cases c7 : f.1 = 7
      · rw [if_pos c7, if_neg (fun q8 => h8 q8 f l q c c7)]
      · rw [if_neg c7]
  · intro f l q h' c hn h0 b
    have := len f l q c
    refine fin h' _ b (by simp only [List.length_cons]; omega) ?_
    rw [endT_rest c (by unfold fullF; omega), if_neg h5, if_neg h6, if_neg (by omega), if_neg (by omega)]
  · intro f l q e h' c hu d b
    exact sp_M_bad_bad b.ne.1 (hp e h' (by rw [endT_full c hu, d]) b)
  · intro f l q q2 h' c hu d b
    have := len f l q c
    refine fin h' _ b (by simp only [List.length_cons]; omega) ?_
    rw [endT_full c hu, d]
    simp only
    rw [if_neg h5]
theorem rk0 {op : Nat} (h : op < 28) : rk op ≤ 0 ↔ isBin op = false := by
  refine c28 (P := fun op => rk op ≤ 0 ↔ isBin op = false) h ?_
  repeat' apply And.intro
  all_goals decide
theorem rk4 {op : Nat} (h : op < 28) : rk op = 4 ↔ stg op = 3 := by
  refine c28 (P := fun op => rk op = 4 ↔ stg op = 3) h ?_
  repeat' apply And.intro
  all_goals decide
theorem RM.choice {h : zH} {f : Fr} {l : List Fr} {q : List Nat × List Pt} (a : RM h (f :: l, q)) (hf : f.1 = 7) : RM (zi h 54 l.length 101) ((27, f.2.1, 0) :: l, q) := by
  obtain ⟨a1, a2, a3, a4, a5, a6, a7⟩ := a
  have en : nst ((27, f.2.1, 0) :: l) = nst (f :: l) := by rw [nst1 (by rfl), nst1 (by rw [hf]; rfl)]
  have ec : cRd f = 0 := by unfold cRd; rw [if_neg (by omega), if_neg (by omega)]
  have e3 := a3.2.2.1
  rw [ec] at e3
  refine ⟨by simp [zi1]; exact a1, by rw [en]; simp [zi1]; exact a2, ⟨by simp [zi1]; rfl, by simp [zi1]; exact a3.2.1, by simp [zi1]; exact e3, StkW.same (h := h) (fun i hi => ⟨?_, by simp [zi1], by simp [zi1]⟩) a3.2.2.2⟩, by simp [zi1]; exact a4, StkY.same (h := h) (fun i _ => by simp [zi1]) a5, by simp [zi1]; exact a6, RMt.same (h := h) (fun c i h1 h2 _ => ⟨by rw [zi_ne (by omega)], rfl⟩) a7⟩
  rw [zi1, if_neg (by omega)]
set_option maxHeartbeats 1000000 in
theorem sp_M_goesOn {h : zH} {σ : St} {t : Tk} {post : Int32 → zH → Prop} (a : RM h σ) (hI : Iw 2 σ) (hT : topS σ.1 < 5) (hf : h.1 39 24 = 0) (e8 : h.1 39 8 = nI (rop t.1)) (ht : TkOk t) (e9 : h.1 39 9 = nI t.2.1)
    (hbad : ∀ r e h', stepO t σ = .error e → BadM h h' e → post r h')
    (hop : ∀ σ' h', stepO t σ = .ok (0, σ') → GoodM h h' σ' → post 1 h')
    (hend : ∀ σ' h', stepO t σ = .ok (3, σ') → GoodM h h' σ' → post 0 h')
    (hclb : ∀ σ1 e h', stepO t σ = .ok (2, σ1) → stl 5 σ1.1 σ1.2.1 σ1.2.2 = .error e → BadM h h' e → post 0 h')
    (hcl : ∀ σ1 σ' h', stepO t σ = .ok (2, σ1) → stl 5 σ1.1 σ1.2.1 σ1.2.2 = .ok σ' → GoodM h h' σ' → post 0 h') : wp_M_goesOn h post := by
  have hlt : t.1 < 28 := by have := ht.1; omega
  have hpl := ht.2.1
  have rl := rk_le t.1
  have q7 : nI (rop t.1) = 63 ↔ t.1 = 7 := ropI 7 hlt
  have q8 : nI (rop t.1) = 58 ↔ t.1 = 8 := ropI 8 hlt
  have q5 : nI (rop t.1) = 41 ↔ t.1 = 5 := ropI 5 hlt
  have q6 : nI (rop t.1) = 44 ↔ t.1 = 6 := ropI 6 hlt
  have q1 : nI (rop t.1) = 1 ↔ t.1 = 1 := ropI 1 hlt
  unfold wp_M_goesOn
  rw [e8]
  refine sp_M_rank hlt ?_
  rw [e8]
  rw [nI_le_lit (d := 0) (by omega) (by decide), nI_lit (d := 4) (by omega) (by decide), rk0 hlt, rk4 hlt, q7, q8]
  refine ⟨fun nb => ⟨fun n7 => ⟨fun n8 => ?_, fun c8 => ?_⟩, fun c7 => ?_⟩, fun yb => ⟨fun n3 => ?_, fun c3 => ?_⟩⟩
  · -- the end of a term
    have es : stepO t σ = endT t σ := by unfold stepO; rw [nb, if_neg (by simp), if_neg n7]
    rw [es] at hbad hop hend hclb hcl
    have b383 : ∀ (h' : zH) (σ' : St), GoodM h h' σ' → σ'.1.length ≤ 197 → endT t σ = .error (1 + 8 * t.2.1) → b_M_goesOn_383 post h' := by
      intro h' σ' b hl he
      unfold b_M_goesOn_383
      rw [(b.1 39 9 keep9).1, e9]
      exact sp_M_bad (a := 1) b.2.2 (hbad 1 _ _ he (BadM.mk b.1 b.2.1 hl (by omega)))
    have b340 : ∀ (h' : zH) (f : Fr) (l : List Fr) (q : List Nat × List Pt), GoodM h h' (f :: l, q) → nsts f.1 = true → endT t σ = .ok (2, l, q) → b_M_goesOn_340 post h' := by
      intro h' f l q b hn he
      unfold b_M_goesOn_340
      intro h20 g20 h21 g21
      have w28 : h'.1 39 28 = nI (l.length + 1) := b.2.1.1
      rw [w28, nI_pred] at g20
      have w31 : h20.1 39 31 = nI (nst l + 1) := by rw [g20]; simp [zi1]; rw [← nst1 hn]; exact b.2.1.2.1
      rw [w31, nI_pred] at g21
      have a5 : RM h21 (l, q) := by rw [g21, g20]; exact b.2.1.pop1
      have f5 : FK keepC h h21 := by rw [g21, g20]; exact (b.1.zi nkC).zi nkC
      have z5 : h21.1 39 24 = 0 := by rw [g21, g20]; simp [zi1]; exact b.2.2
      have I5 : Iw 2 (l, q) := by
        rcases stepO_inv ht hI (es.trans he) with ⟨c, _⟩ | ⟨_, c⟩
        · simp only at c; omega
        · exact c
      exact sp_M_wasRead a5 I5 z5 (fun e h9 c d => hclb (l, q) e h9 he c (d.pre f5)) (fun s h9 c d => hcl (l, q) s h9 he c (d.pre f5))
    have len : ∀ f l q, stl 0 σ.1 σ.2.1 σ.2.2 = .ok (f :: l, q) → l.length < 197 ∧ FrOk f := by
      intro f l q c
      have F := hI.1.settled c
      have := F.len
      simp only [List.length_cons] at this
      exact ⟨by omega, F.top⟩
    have stay : ∀ (h' : zH) (σ' : St), GoodM h h' σ' → h'.1 39 8 = nI (rop t.1) := by
      intro h' σ' b
      rw [(b.1 39 8 keep8).1, e8]
    -- a frame is there: no end
    have b366 : ∀ (h' : zH) (f : Fr) (l : List Fr) (q : List Nat × List Pt), GoodM h h' (f :: l, q) → l.length < 197 → endT t σ = .error (1 + 8 * t.2.1) → b_M_goesOn_366 post h' := by
      intro h' f l q b hl he
      have w28 : h'.1 39 28 = nI (l.length + 1) := b.2.1.1
      have := b383 h' _ b (by simp only [List.length_cons]; omega) he
      unfold b_M_goesOn_366
      rw [w28]
      exact ⟨fun _ => this, fun _ => ⟨fun _ => this, fun z => absurd ((nI_lit (d := 0) (by omega) (by decide)).mp z) (by omega)⟩⟩
    refine sp_M_termEnds a hI (by omega) hf ?_ ?_ ?_ ?_ ?_ ?_
    · intro e h' c b
      exact ⟨fun z => absurd z b.ne.2.2, fun _ => hbad 1 e h' (endT_ster (by decide) c) b⟩
    · intro q h' c b
      rw [b.2.2]
      refine ⟨fun _ => sp_M_topOp b.2.1 (by simp) ?_, fun z => absurd (by decide) z⟩
      show ((0 : Int32) = 4 → _) ∧ (¬ (0 : Int32) = 4 → ((0 : Int32) = 5 → _) ∧ (¬ (0 : Int32) = 5 → (¬ (0 : Int32) = 6 → b_M_goesOn_263 post 0 0 h') ∧ ((0 : Int32) = 6 → _)))
      refine ⟨fun z => absurd z (by decide), fun _ => ⟨fun z => absurd z (by decide), fun _ => ⟨fun _ => ?_, fun z => absurd z (by decide)⟩⟩⟩
      have w8 := stay h' _ b
      have w28 : h'.1 39 28 = nI 0 := b.2.1.1
      have en := endT_nil (t := t) c
      have b366n : b_M_goesOn_366 post h' := by
        unfold b_M_goesOn_366
        rw [w8, q1]
        refine ⟨fun z => b383 h' _ b (by simp) (by rw [en, if_neg z]), fun z => ⟨fun z2 => absurd (by rw [w28]; rfl) z2, fun _ => hend _ h' (by rw [en, if_pos z]) b⟩⟩
      unfold b_M_goesOn_263 b_M_goesOn_297 b_M_goesOn_298 b_M_goesOn_320
      rw [w8]
      refine ⟨fun _ => ?_, fun z => absurd rfl z⟩
      refine ⟨fun _ => ⟨fun _ => b366n, fun _ => ⟨fun z => absurd z (by decide), fun _ => ⟨fun _ => b366n, fun z => absurd rfl z⟩⟩⟩, fun _ => ⟨fun _ => ⟨fun _ => b366n, fun _ => ⟨fun z => absurd z (by decide), fun _ => ⟨fun _ => b366n, fun z => absurd rfl z⟩⟩⟩, fun z => absurd rfl z⟩⟩
    · intro f l q h' c hn b
      obtain ⟨hl, fo⟩ := len f l q c
      have hfl : f.1 < 28 := by have := fo.1; omega
      have e23 : nI (rop f.1) = 4 ↔ f.1 = 23 := ropI 23 hfl
      have e24 : nI (rop f.1) = 5 ↔ f.1 = 24 := ropI 24 hfl
      have e25 : nI (rop f.1) = 6 ↔ f.1 = 25 := ropI 25 hfl
      have e4 : nI (rop f.1) = 40 ↔ f.1 = 4 := ropI 4 hfl
      have w8 := stay h' _ b
      have er := endT_rest (t := t) c (nfull hn)
      unfold fnF at hn
      have fin : ¬ (f.1 = 4 ∧ t.1 = 5) → ¬ t.1 = 6 → endT t σ = .error (1 + 8 * t.2.1) := by
        intro z1 z2
        rw [er]
        by_cases c4 : f.1 = 4
        · rw [if_pos c4, if_neg (by omega)]
        · rw [if_neg c4, if_neg n8, if_neg z2]; simp
      have fin6 : t.1 = 6 → endT t σ = .error (1 + 8 * t.2.1) := by
        intro z2
        rw [er]
        by_cases c4 : f.1 = 4
        · rw [if_pos c4, if_neg (by omega)]
        · rw [if_neg c4, if_neg n8]
          have : f.1 = 7 := by
            obtain ⟨I1, I2⟩ := stl_Iv (by decide) _ _ _ _ (show Iv (σ.1, σ.2.1, σ.2.2) from hI.iv) c
            have := stg_m1 fo I2
            omega
          rw [if_pos this]
      rw [b.2.2]
      refine ⟨fun _ => sp_M_topOp b.2.1 (by simp only [List.length_cons]; omega) ?_, fun z => absurd (by decide) z⟩
      show (nI (rop f.1) = 4 → _) ∧ (¬ nI (rop f.1) = 4 → (nI (rop f.1) = 5 → _) ∧ (¬ nI (rop f.1) = 5 → (¬ nI (rop f.1) = 6 → b_M_goesOn_263 post (nI (rop f.1)) 0 h') ∧ (nI (rop f.1) = 6 → _)))
      rw [e23, e24, e25]
      refine ⟨fun z => absurd z (by omega), fun _ => ⟨fun z => absurd z (by omega), fun _ => ⟨fun _ => ?_, fun z => absurd z (by omega)⟩⟩⟩
      have b320 : b_M_goesOn_320 post (nI (rop f.1)) 0 h' := by
        unfold b_M_goesOn_320
        rw [w8, q5, e4]
        have g : ¬ (f.1 = 4 ∧ t.1 = 5) → b_M_goesOn_366 post h' := by
          intro z
          by_cases c6 : t.1 = 6
          · exact b366 h' f l q b hl (fin6 c6)
          · exact b366 h' f l q b hl (fin z c6)
        refine ⟨fun z => g (by omega), fun z => ⟨fun z2 => b340 h' f l q b (by rw [z2]; rfl) (by rw [er, if_pos z2, if_pos z]), fun z2 => ⟨fun _ => g (by omega), fun z3 => absurd rfl z3⟩⟩⟩
      unfold b_M_goesOn_263 b_M_goesOn_297 b_M_goesOn_298
      exact ⟨fun _ => ⟨fun _ => b320, fun _ => ⟨fun _ => b320, fun z => absurd rfl z⟩⟩, fun z => absurd rfl z⟩
    · intro f l q h' c hn h0 b
      obtain ⟨hl, fo⟩ := len f l q c
      have hfl : f.1 < 28 := by have := fo.1; omega
      have e23 : nI (rop f.1) = 4 ↔ f.1 = 23 := ropI 23 hfl
      have e24 : nI (rop f.1) = 5 ↔ f.1 = 24 := ropI 24 hfl
      have e25 : nI (rop f.1) = 6 ↔ f.1 = 25 := ropI 25 hfl
      have e4 : nI (rop f.1) = 40 ↔ f.1 = 4 := ropI 4 hfl
      have w8 := stay h' _ b
      have er := endT_rest (t := t) c (by unfold fullF; omega)
      rw [if_neg (by omega), if_neg (by omega)] at er
      have w28 : h'.1 39 28 = nI (l.length + 1) := b.2.1.1
      have w56 : h'.1 56 l.length = nI (cRd (f.1, f.2.1, 1)) := b.2.1.2.2.1.2.2.1
      have ec : cRd (f.1, f.2.1, 1) = 1 := by unfold cRd; rw [if_pos hn]
      rw [ec] at w56
      rw [b.2.2]
      refine ⟨fun _ => sp_M_topOp b.2.1 (by simp only [List.length_cons]; omega) ?_, fun z => absurd (by decide) z⟩
      show (nI (rop f.1) = 4 → b_M_goesOn_258 post (nI (rop f.1)) h') ∧ (¬ nI (rop f.1) = 4 → (nI (rop f.1) = 5 → b_M_goesOn_258 post (nI (rop f.1)) h') ∧ (¬ nI (rop f.1) = 5 → _ ∧ _))
      have b320 : ¬ t.1 = 6 → b_M_goesOn_320 post (nI (rop f.1)) 0 h' := by
        intro z6
        unfold b_M_goesOn_320
        rw [w8, q5, e4]
        have g := b366 h' _ l q b hl (by rw [er, if_neg z6])
        exact ⟨fun z => g, fun z => ⟨fun z2 => absurd z2 (by omega), fun z2 => ⟨fun _ => g, fun z3 => absurd rfl z3⟩⟩⟩
      have b258 : b_M_goesOn_258 post (nI (rop f.1)) h' := by
        unfold b_M_goesOn_258 b_M_goesOn_263 b_M_goesOn_290 b_M_goesOn_297 b_M_goesOn_298
        rw [w28, nI_pred, nI_clamp' (by omega), w56, w8, e25, q6]
        refine ⟨fun z => absurd z (by decide), fun _ => ⟨vp_in_nI (by omega) (by decide), fun _ => ⟨fun _ => ⟨b320, fun z => ⟨fun z2 => absurd z2 (by decide), fun _ => ⟨fun z2 => absurd rfl z2, fun _ => ?_⟩⟩⟩, fun z => absurd z (by decide)⟩, fun z => absurd z (by omega)⟩⟩
        exact hop _ h' (by rw [er, if_pos z]) b
      rw [e23, e24]
      exact ⟨fun _ => b258, fun z1 => ⟨fun _ => b258, fun z2 => absurd hn (by omega)⟩⟩
    · intro f l q e h' c hu d b
      exact ⟨fun z => absurd z b.ne.2.2, fun _ => hbad 1 e h' (by rw [endT_full c hu, d]) b⟩
    · intro f l q q2 h' c hu d b
      obtain ⟨hl, fo⟩ := len f l q c
      have hfl : f.1 < 28 := by have := fo.1; omega
      have e23 : nI (rop f.1) = 4 ↔ f.1 = 23 := ropI 23 hfl
      have e24 : nI (rop f.1) = 5 ↔ f.1 = 24 := ropI 24 hfl
      have e25 : nI (rop f.1) = 6 ↔ f.1 = 25 := ropI 25 hfl
      have e4 : nI (rop f.1) = 40 ↔ f.1 = 4 := ropI 4 hfl
      have w8 := stay h' _ b
      have er := endT_full (t := t) c hu
      rw [d] at er
      simp only at er
      have hu2 : f.1 = 23 ∨ f.1 = 24 ∨ f.1 = 25 := by unfold fullF at hu; omega
      have w28 : h'.1 39 28 = nI (l.length + 1) := b.2.1.1
      have w56 : h'.1 56 l.length = nI (cRd (f.1, f.2.1, 2)) := b.2.1.2.2.1.2.2.1
      rw [b.2.2]
      refine ⟨fun _ => sp_M_topOp b.2.1 (by simp only [List.length_cons]; omega) ?_, fun z => absurd (by decide) z⟩
      show (nI (rop f.1) = 4 → b_M_goesOn_258 post (nI (rop f.1)) h') ∧ (¬ nI (rop f.1) = 4 → (nI (rop f.1) = 5 → b_M_goesOn_258 post (nI (rop f.1)) h') ∧ (¬ nI (rop f.1) = 5 → (¬ nI (rop f.1) = 6 → _) ∧ (nI (rop f.1) = 6 → b_M_goesOn_258 post (nI (rop f.1)) h')))
      have b320 : b_M_goesOn_320 post (nI (rop f.1)) 1 h' := by
        unfold b_M_goesOn_320
        rw [w8, q5, e4]
        exact ⟨fun z => b366 h' _ l q2 b hl (by rw [er, if_neg z]), fun z => ⟨fun z2 => absurd z2 (by omega), fun z2 => ⟨fun z3 => absurd z3 (by decide), fun _ => b340 h' _ l q2 b (by rcases hu2 with e | e | e <;> (simp only; rw [e]; rfl)) (by rw [er, if_pos z])⟩⟩⟩
      have b298 : b_M_goesOn_298 post (nI (rop f.1)) 1 1 h' := by
        unfold b_M_goesOn_298
        exact ⟨fun _ => b320, fun _ => ⟨fun _ => b320, fun _ => ⟨fun _ => b320, fun z => absurd z (by decide)⟩⟩⟩
      have b258 : b_M_goesOn_258 post (nI (rop f.1)) h' := by
        unfold b_M_goesOn_258 b_M_goesOn_263 b_M_goesOn_290
        rw [w28, nI_pred, nI_clamp' (by omega), w56, e25]
        refine ⟨fun z => absurd z (by decide), fun _ => ⟨vp_in_nI (by omega) (by decide), fun z => ⟨fun z2 => absurd ?_ z2, fun _ => b298⟩, fun z => ⟨fun z2 => absurd ?_ z2, fun _ => b298⟩⟩⟩
        · have : cRd (f.1, f.2.1, 2) = 2 := by unfold cRd; rw [if_pos (by simp only; omega)]
          rw [this]; rfl
        · have : cRd (f.1, f.2.1, 2) = 1 := by unfold cRd; rw [if_neg (by simp only; omega), if_pos z]; rfl
          rw [this]; rfl
      rw [e23, e24, e25]
      exact ⟨fun _ => b258, fun z1 => ⟨fun _ => b258, fun z2 => ⟨fun z3 => absurd hu2 (by omega), fun _ => b258⟩⟩⟩
  · -- a colon
    have es : stepO t σ = endT t σ := by unfold stepO; rw [nb, if_neg (by simp), if_neg n7]
    rw [es] at hbad hop hend hclb hcl
    refine sp_all0 (E := b_M_goesOn_186 post) (F := b_M_goesOn_134 post) (fun n h b => b) a hI (by omega) hf (fun e h' c b => ?_) (fun σ1 h' c b => ?_)
    · obtain ⟨b1, b2, b3, w, b4, b5⟩ := id b
      have g : b_M_goesOn_218 post h' := by
        unfold b_M_goesOn_218 wp_M_termFault b_M_termFault_11 b_M_goesOn_222
        exact ⟨fun _ => sp_M_bad_bad b.ne.1 (hbad 1 e h' (endT_ster (by decide) c) b), fun z => absurd z b.ne.1⟩
      unfold b_M_goesOn_186
      exact sp_M_topOp_bad b4 b5 (fun x => ⟨fun _ => g, fun _ => ⟨fun _ => g, fun z => absurd z b.ne.1⟩⟩)
    · obtain ⟨I1, I2⟩ := stl_Iv (by decide) _ _ _ σ1 (show Iv (σ.1, σ.2.1, σ.2.2) from hI.iv) c
      have F1 : Fok σ1.1 := hI.1.settled c
      have el := stl_stl_ok (r := 0) (r' := 0) (by decide) _ _ _ _ c
      have g : (∀ f l q, σ1 = (f :: l, q) → f.1 ≠ 7) → b_M_goesOn_218 post h' := by
        intro hno
        unfold b_M_goesOn_218 wp_M_termFault b_M_termFault_11 b_M_goesOn_222
        refine ⟨fun z => absurd b.2.2 z, fun _ => sp_tfail (t := t) b.2.1 (I1.iw F1) (by omega) b.2.2 (by rw [(b.1 39 9 keep9).1, e9]) hpl (by omega) (by omega) (by omega) (fun _ f l q c2 => hno f l q ?_) (fun e h9 d1 d2 => hbad 1 e h9 ?_ (d2.pre b.1))⟩
        · rw [← el, c] at c2
          cases c2; rfl
        · rw [← endT_stl (by decide) c]; exact d1
      unfold b_M_goesOn_186 b_M_goesOn_222
      refine sp_M_topOp b.2.1 F1.len ?_
      obtain ⟨ws, q⟩ := σ1
      cases ws with
      | nil =>
        have g0 := g (fun f l q z => by cases z)
        exact ⟨fun _ => g0, fun z => absurd (show (0 : Int32) = 63 from z) (by decide)⟩
      | cons f l =>
        have hfl : f.1 < 28 := by have := F1.top.1; omega
        have hl := F1.len
        simp only [List.length_cons] at hl
        have e7 : nI (rop f.1) = 63 ↔ f.1 = 7 := ropI 7 hfl
        have w28 : h'.1 39 28 = nI (l.length + 1) := b.2.1.1
        show (¬ nI (rop f.1) = 63 → _) ∧ (nI (rop f.1) = 63 → _)
        rw [e7, w28, nI_pred, nI_clamp' (by omega)]
        refine ⟨fun z => g (fun f9 l9 q9 z9 => by cases z9; exact z), fun z => ⟨fun z2 => absurd b.2.2 z2, fun _ => ⟨vp_in_nI (by omega) (by decide), fun h13 g13 => ?_⟩⟩⟩
        refine hop ((27, f.2.1, 0) :: l, q) h13 ?_ ?_
        · rw [endT_rest c (by unfold fullF; omega), if_neg (by omega), if_pos z, if_pos c8]
        · rw [g13]
          exact ⟨b.1.zi nkC, b.2.1.choice z, by simp [zi1]; exact b.2.2⟩
  · -- a question mark
    refine sp_M_doAll (r := 1) (s := 1) (Or.inl ⟨rfl, rfl⟩) a hI (by omega) hf (fun e h' c b => ?_) (fun σ1 h' c b => ?_)
    · unfold b_M_goesOn_118
      refine ⟨fun _ => hbad 1 e h' ?_ b, fun z => absurd z b.ne.1⟩
      unfold stepO
      rw [nb, if_neg (by simp), if_pos c7, c]
    · have F1 : Fok σ1.1 := hI.1.settled c
      have es : stepO t σ = nestS 7 0 t.2.1 σ1 := by
        unfold stepO
        rw [nb, if_neg (by simp), if_pos c7, c]
      unfold b_M_goesOn_118
      refine ⟨fun z => absurd b.2.2 z, fun _ => ?_⟩
      refine sp_M_enter (op := 7) (pl := t.2.1) b.2.1 F1 b.2.2 (by rw [(b.1 39 9 keep9).1, e9]) hpl rfl (fun c9 h9 d => ?_) (fun c9 h9 d => ?_)
      · exact hbad 1 _ h9 (by rw [es]; unfold nestS; rw [if_pos c9]) (d.pre b.1)
      · exact hop _ h9 (by rw [es]; unfold nestS; rw [if_neg c9]) (d.pre b.1)
  · -- an operator with two parts, no comparison
    have hb : isBin t.1 = true := by
      cases z : isBin t.1 with
      | true => rfl
      | false => exact absurd z yb
    have bs := isBin_stg hb
    have rs : (rk t.1 : Int) = stg t.1 + 1 := by
      rcases stg_rk hlt with z | z
      · exact z.2.1
      · rw [hb] at z; cases z.1
    unfold b_M_goesOn_41
    refine sp_M_doAll (r := rk t.1) (s := stg t.1) (Or.inr ⟨by omega, by omega, by omega⟩) a hI (by omega) hf (fun e h' c b => ?_) (fun σ1 h' c b => ?_)
    · unfold b_M_goesOn_70 b_M_goesOn_89
      refine ⟨fun _ => ⟨fun _ => hbad 1 e h' ?_ b, fun z => absurd z b.ne.1⟩, fun z => absurd rfl z⟩
      unfold stepO
      rw [if_pos hb, if_neg n3, c]
    · unfold b_M_goesOn_70 b_M_goesOn_89
      have F1 : Fok σ1.1 := hI.1.settled c
      have hl := F1.len
      refine ⟨fun _ => ⟨fun z => absurd b.2.2 z, fun _ => ?_⟩, fun z => absurd rfl z⟩
      rw [(b.1 39 9 keep9).1, e9, (b.1 39 8 keep8).1, e8]
      have en : nst ((t.1, t.2.1, 0) :: σ1.1) = nst σ1.1 := by show (if nsts t.1 = true then 1 else 0) + nst σ1.1 = nst σ1.1; rw [bs.2.2.2.2]; simp
      refine sp_M_hold b.2.1.1 (by omega) (hop ((t.1, t.2.1, 0) :: σ1.1, σ1.2) _ ?_ ⟨(((b.1.zi nkC).zi nkC).zi nkC).zi nkC, RM.hold b.2.1 (Or.inl rfl) (by rw [en]; exact b.2.1.2.1), by unfold hld; simp [zi1]; exact b.2.2⟩)
      unfold stepO
      rw [if_pos hb, if_neg n3, c]
      simp only
      rw [if_neg (by omega)]
  · -- a comparison
    have hb : isBin t.1 = true := by
      cases z : isBin t.1 with
      | true => rfl
      | false => exact absurd z yb
    have bs := isBin_stg hb
    have r4 : rk t.1 = 4 := (rk4 hlt).mpr c3
    rw [r4]
    refine sp_M_doAll (r := 5) (s := 4) (Or.inr ⟨by omega, by omega, by omega⟩) a hI (by omega) hf (fun e h' c b => ?_) (fun σ1 h' c b => ?_)
    · obtain ⟨b1, b2, b3, w, b4, b5⟩ := id b
      have es : stepO t σ = .error e := by unfold stepO; rw [if_pos hb, if_pos c3, c]
      have g : ∀ x, b_M_goesOn_40 post (nI 4) x h' := by
        intro x
        unfold b_M_goesOn_40 b_M_goesOn_41 b_M_goesOn_61
        have g70 : b_M_goesOn_70 post h' := by
          unfold b_M_goesOn_70 b_M_goesOn_89
          exact ⟨fun _ => hbad 1 e h' es b, fun z => absurd z b.ne.1⟩
        exact sp_M_doAll_bad b.ne.1 ⟨fun _ => g70, fun _ => ⟨fun _ => sp_M_bad_bad b.ne.1 g70, fun z => absurd z b.ne.1⟩⟩
      exact sp_M_topOp_bad b4 b5 (fun x => sp_M_rank_any (fun r => ⟨fun _ => g 0, fun _ => g 1⟩))
    · obtain ⟨I1, I2⟩ := stl_Iv (by decide) _ _ _ σ1 (show Iv (σ.1, σ.2.1, σ.2.2) from hI.iv) c
      have F1 : Fok σ1.1 := hI.1.settled c
      have W1 := I1.iw F1
      have hl := F1.len
      have es : stepO t σ = if stg t.1 = 3 ∧ topS σ1.1 = 3 then endT t σ1 else .ok (0, (t.1, t.2.1, 0) :: σ1.1, σ1.2) := by
        unfold stepO
        rw [if_pos hb, if_pos c3, c]
      have w9 : h'.1 39 9 = nI t.2.1 := by rw [(b.1 39 9 keep9).1, e9]
      have w8 : h'.1 39 8 = nI (rop t.1) := by rw [(b.1 39 8 keep8).1, e8]
      have en : nst ((t.1, t.2.1, 0) :: σ1.1) = nst σ1.1 := by show (if nsts t.1 = true then 1 else 0) + nst σ1.1 = nst σ1.1; rw [bs.2.2.2.2]; simp
      have gN : topS σ1.1 ≠ 3 → b_M_goesOn_40 post (nI 4) 0 h' := by
        intro n3
        unfold b_M_goesOn_40 b_M_goesOn_41
        have e0 : stl 3 σ1.1 σ1.2.1 σ1.2.2 = .ok σ1 := by
          obtain ⟨ws, q⟩ := σ1
          cases ws with
          | nil => rfl
          | cons f l =>
            have : stg f.1 < 3 := by
              have i2 : stg f.1 < 4 := I2
              have i3 : stg f.1 ≠ 3 := n3
              omega
            rw [stl, if_neg (by omega)]
        refine sp_M_doAll (r := 4) (s := 3) (Or.inr ⟨by omega, by omega, by omega⟩) b.2.1 W1 (by omega) b.2.2 (fun e h9 c9 d => by rw [e0] at c9; cases c9) (fun σ2 h9 c9 d => ?_)
        rw [e0] at c9
        cases c9
        unfold b_M_goesOn_70 b_M_goesOn_89
        refine ⟨fun _ => ⟨fun z => absurd d.2.2 z, fun _ => ?_⟩, fun z => absurd rfl z⟩
        rw [(d.1 39 9 keep9).1, w9, (d.1 39 8 keep8).1, w8]
        refine sp_M_hold d.2.1.1 (by omega) (hop ((t.1, t.2.1, 0) :: σ1.1, σ1.2) _ (by rw [es, if_neg (fun z => n3 z.2)]) ⟨((((b.1.tr d.1).zi nkC).zi nkC).zi nkC).zi nkC, RM.hold d.2.1 (Or.inl rfl) (by rw [en]; exact d.2.1.2.1), by unfold hld; simp [zi1]; exact d.2.2⟩)
      have gY : topS σ1.1 = 3 → b_M_goesOn_40 post (nI 4) 1 h' := by
        intro y3
        rw [if_pos ⟨c3, y3⟩] at es
        unfold b_M_goesOn_40 b_M_goesOn_41
        have g70 : ∀ e h9, endT t σ1 = .error e → BadM h h9 e → b_M_goesOn_70 post h9 := by
          intro e h9 d1 d2
          unfold b_M_goesOn_70 b_M_goesOn_89
          exact ⟨fun _ => hbad 1 e h9 (es.trans d1) d2, fun z => absurd z d2.ne.1⟩
        refine sp_M_doAll (r := 4) (s := 3) (Or.inr ⟨by omega, by omega, by omega⟩) b.2.1 W1 (by omega) b.2.2 (fun e h9 c9 d => ?_) (fun σ2 h9 c9 d => ?_)
        · unfold b_M_goesOn_61
          exact ⟨fun z => absurd z (by decide), fun _ => ⟨fun _ => sp_M_bad_bad d.ne.1 (g70 e h9 (endT_ster (by decide) c9) (d.pre b.1)), fun z => absurd z d.ne.1⟩⟩
        · obtain ⟨J1, J2⟩ := stl_Iv (by decide) _ _ _ σ2 (show Iv (σ1.1, σ1.2.1, σ1.2.2) from I1) c9
          have F2 : Fok σ2.1 := F1.settled c9
          unfold b_M_goesOn_61
          refine ⟨fun z => absurd z (by decide), fun _ => ⟨fun z => absurd d.2.2 z, fun _ => ?_⟩⟩
          have tb : 9 ≤ t.1 := bs.2.2.1
          refine sp_tfail (t := t) d.2.1 (J1.iw F2) (by omega) d.2.2 (by rw [(d.1 39 9 keep9).1, w9]) hpl (by omega) (by omega) (by omega) (fun z => by omega) (fun e h8 d1 d2 => g70 e h8 ?_ (d2.pre (b.1.tr d.1)))
          rw [← endT_stl (by decide) c9]; exact d1
      refine sp_M_topOp b.2.1 hl ?_
      obtain ⟨ws, q⟩ := σ1
      cases ws with
      | nil =>
        refine sp_M_rank0 ⟨fun _ => gN (by show (-1 : Int) ≠ 3; decide), fun z => absurd z (by decide)⟩
      | cons f l =>
        have hfl : f.1 < 28 := by have := F1.top.1; omega
        have rl2 := rk_le f.1
        refine sp_M_rank hfl ?_
        rw [nI_lit (d := 4) (by omega) (by decide), rk4 hfl]
        exact ⟨fun z => gN z, fun z => gY z⟩
