def chBody (E : zH → Prop) (rc : zH → Prop) (h : zH) : Prop := ((¬ (h.1 39 24) = 0 → E h) ∧ ((h.1 39 24) = 0 → wp_M_topOp h (fun (r8 : Int32) (h9 : zH) => ((¬ r8 = 101 → E h9) ∧ (r8 = 101 → (∀ h10 : zH, h10 = zi h9 39 28 ((h9.1 39 28) - 1) → (∀ h11 : zH, h11 = zi h10 39 31 ((h10.1 39 31) - 1) → (vp_in (h11.1 39 28) 300 ∧ wp_M_doChoice ((h11.1 55 ((h11.1 39 28) : Int32).toNatClampNeg)) h11 (fun (h13 : zH) => rc h13)))))))))
theorem stg27 {op : Nat} (h : op = 4 ∨ op = 7 ∨ (9 ≤ op ∧ op ≤ 27)) (hs : stg op < 1) : (0 ≤ stg op ↔ op = 27) := by
  have hb : op < 28 := by omega
  revert h hs
  refine c28 (P := fun op => (op = 4 ∨ op = 7 ∨ (9 ≤ op ∧ op ≤ 27)) → stg op < 1 → (0 ≤ stg op ↔ op = 27)) hb ?_
  repeat' apply And.intro
  all_goals decide
theorem sp_choices {E : zH → Prop} {F : Nat → zH → Prop} (hF0 : ∀ n h, chBody E (F n) h → F (n + 1) h) : ∀ (ws : List Fr) (pile : List Nat) (ps : List Pt) (h : zH) (m : Nat), ws.length < m → RM h (ws, pile, ps) → Iv (ws, pile, ps) → Fok ws → topS ws < 1 → h.1 39 24 = 0 →
    (∀ e h', stl 0 ws pile ps = .error e → BadM h h' e → E h') → (∀ σ h', stl 0 ws pile ps = .ok σ → GoodM h h' σ → E h') → F m h := by
  intro ws
  induction ws with
  | nil =>
    intro pile ps h m hm a hI hF hT hf hbad hgood
    cases m with
    | zero => omega
    | succ m =>
      refine hF0 m h ⟨fun q => absurd hf q, fun _ => sp_M_topOp a (by simp) ⟨fun _ => hgood ([], pile, ps) h rfl ⟨FK.rf, a, hf⟩, fun q => absurd (show (0 : Int32) = 101 from q) (by decide)⟩⟩
  | cons f l ih =>
    intro pile ps h m hm a hI hF hT hf hbad hgood
    cases m with
    | zero => omega
    | succ m =>
      have hl := hF.len
      have hT' : stg f.1 < 1 := hT
      have hlt : f.1 < 28 := by have := hF.top.1; omega
      simp only [List.length_cons] at hm hl
      have s27 := stg27 hF.top.1 hT'
      have e27 : nI (rop f.1) = 101 ↔ f.1 = 27 := ropI 27 hlt
      refine hF0 m h ⟨fun q => absurd hf q, fun _ => sp_M_topOp a (by simp only [List.length_cons]; omega) ?_⟩
      show (¬ nI (rop f.1) = 101 → _) ∧ (nI (rop f.1) = 101 → _)
      rw [e27]
      refine ⟨fun q => hgood (f :: l, pile, ps) h (by rw [stl, if_neg (fun z => q (s27.mp z))]) ⟨FK.rf, a, hf⟩, fun q h10 g10 h11 g11 => ?_⟩
      have hs : 0 ≤ stg f.1 := s27.mpr q
      have hn : nsts f.1 = true := by rw [q]; rfl
      have e28 : h.1 39 28 = nI (l.length + 1) := a.1
      rw [e28, nI_pred] at g10
      have e31 : h10.1 39 31 = nI (nst l + 1) := by rw [g10]; simp [zi1]; rw [← nst1 hn]; exact a.2.1
      rw [e31, nI_pred] at g11
      have a5 : RM h11 (l, pile, ps) := by rw [g11, g10]; exact a.pop1
      have f5 : FK keepC h h11 := by rw [g11, g10]; exact (FK.rf.zi nkC).zi nkC
      have z5 : h11.1 39 24 = 0 := by rw [g11, g10]; simp [zi1, hf]
      have u2 : h11.1 55 l.length = nI f.2.1 := by rw [g11, g10]; simp [zi1]; exact a.2.2.1.2.1
      have e5 : h11.1 39 28 = nI l.length := a5.1
      rw [e5, nI_clamp' (by omega), u2]
      refine ⟨vp_in_nI (by omega) (by decide), choice_done a5 f5 z5 hI q (fun e h' c b => ?_) (fun q' h' c b => ?_)⟩
      · have el : stl 0 (f :: l) pile ps = .error e := by rw [stl, if_pos hs, c]
        cases m with
        | zero => omega
        | succ m => exact hF0 m h' ⟨fun _ => hbad e h' el b, fun q9 => absurd q9 b.ne.1⟩
      · have el : ∀ x, stl 0 l q'.1 q'.2 = x → stl 0 (f :: l) pile ps = x := by intro x hx; rw [stl, if_pos hs, c]; exact hx
        refine ih q'.1 q'.2 h' m (by omega) b.2.1 (hI.step hs c) hF.tail (hF.2.1.2.2 (Or.inr q)) b.2.2 ?_ ?_
        · intro e h9 d1 d2; exact hbad e h9 (el _ d1) (d2.pre b.1)
        · intro σ h9 d1 d2; exact hgood σ h9 (el _ d1) (d2.pre b.1)
/-- doAll(1), then the choices: stl 0 -/
theorem sp_all0 {h : zH} {σ : St} {E : zH → Prop} {F : Nat → zH → Prop} (hF0 : ∀ n h, chBody E (F n) h → F (n + 1) h) (a : RM h σ) (hI : Iw 2 σ) (hT : topS σ.1 < 6) (hf : h.1 39 24 = 0)
    (hbad : ∀ e h', stl 0 σ.1 σ.2.1 σ.2.2 = .error e → BadM h h' e → E h') (hgood : ∀ σ' h', stl 0 σ.1 σ.2.1 σ.2.2 = .ok σ' → GoodM h h' σ' → E h') : wp_M_doAll 1 h (fun h15 => ∃ n : Nat, F n h15) := by
  refine sp_M_doAll (r := 1) (s := 1) (Or.inl ⟨rfl, rfl⟩) a hI hT hf (fun e h' c b => ?_) (fun σ1 h' c b => ?_)
  · exact ⟨1, hF0 0 h' ⟨fun _ => hbad e h' (stl_stl_er (by decide) _ _ _ _ c) b, fun q => absurd q b.ne.1⟩⟩
  · obtain ⟨I1, I2⟩ := stl_Iv (by decide) _ _ _ σ1 (show Iv (σ.1, σ.2.1, σ.2.2) from hI.iv) c
    have F1 : Fok σ1.1 := hI.1.settled c
    have el := stl_stl_ok (r := 0) (r' := 1) (by decide) _ _ _ _ c
    exact ⟨σ1.1.length + 1, sp_choices hF0 σ1.1 σ1.2.1 σ1.2.2 h' _ (by omega) b.2.1 I1 F1 I2 b.2.2 (fun e h9 d1 d2 => hbad e h9 (el.trans d1) (d2.pre b.1)) (fun s h9 d1 d2 => hgood s h9 (el.trans d1) (d2.pre b.1))⟩
def fullF (f : Fr) : Prop := f.1 = 25 ∨ ((f.1 = 23 ∨ f.1 = 24) ∧ f.2.2 = 1)
def fnF (f : Fr) : Prop := f.1 = 23 ∨ f.1 = 24 ∨ f.1 = 25
theorem RM.frame {h : zH} {f : Fr} {l : List Fr} {q : List Nat × List Pt} {c : Nat} (a : RM h (f :: l, q)) : RM (zi h 56 l.length (nI (cRd (f.1, f.2.1, c)))) ((f.1, f.2.1, c) :: l, q) := by
  obtain ⟨a1, a2, a3, a4, a5, a6, a7⟩ := a
  refine ⟨by simp [zi1]; exact a1, by simp [zi1]; exact a2, ⟨by simp [zi1]; exact a3.1, by simp [zi1]; exact a3.2.1, by simp [zi1], StkW.same (h := h) (fun i hi => ⟨by simp [zi1], by simp [zi1], ?_⟩) a3.2.2.2⟩, by simp [zi1]; exact a4, StkY.same (h := h) (fun i _ => by simp [zi1]) a5, by simp [zi1]; exact a6, RMt.same (h := h) (fun c i h1 h2 _ => ⟨by rw [zi_ne (by omega)], rfl⟩) a7⟩
  rw [zi1, if_neg (by omega)]
set_option maxHeartbeats 1000000 in
theorem sp_M_termEnds {h : zH} {σ : St} {post : zH → Prop} (a : RM h σ) (hI : Iw 2 σ) (hT : topS σ.1 < 6) (hf : h.1 39 24 = 0)
    (hbad : ∀ e h', stl 0 σ.1 σ.2.1 σ.2.2 = .error e → BadM h h' e → post h')
    (hnil : ∀ q h', stl 0 σ.1 σ.2.1 σ.2.2 = .ok ([], q) → GoodM h h' ([], q) → post h')
    (hplain : ∀ f l q h', stl 0 σ.1 σ.2.1 σ.2.2 = .ok (f :: l, q) → ¬ fnF f → GoodM h h' (f :: l, q) → post h')
    (hmore : ∀ f l q h', stl 0 σ.1 σ.2.1 σ.2.2 = .ok (f :: l, q) → (f.1 = 23 ∨ f.1 = 24) → f.2.2 = 0 → GoodM h h' ((f.1, f.2.1, 1) :: l, q) → post h')
    (hfb : ∀ f l q e h', stl 0 σ.1 σ.2.1 σ.2.2 = .ok (f :: l, q) → fullF f → comb f.1 f.2.1 q.1 q.2 = .error e → BadM h h' e → post h')
    (hfull : ∀ f l q q2 h', stl 0 σ.1 σ.2.1 σ.2.2 = .ok (f :: l, q) → fullF f → comb f.1 f.2.1 q.1 q.2 = .ok q2 → GoodM h h' ((f.1, f.2.1, 2) :: l, q2) → post h') : wp_M_termEnds h post := by
  unfold wp_M_termEnds
  refine sp_all0 (E := b_M_termEnds_57 post) (fun n h b => b) a hI hT hf (fun e h' c b => ?_) (fun σ1 h' c b => ?_)
  · unfold b_M_termEnds_57 b_M_termEnds_85
    obtain ⟨b1, b2, b3, w, b4, b5⟩ := id b
    exact sp_M_topOp_bad b4 b5 (fun x => ⟨fun _ => hbad e h' c b, fun q => absurd b.ne.2.1 q⟩)
  · obtain ⟨I1, I2⟩ := stl_Iv (by decide) _ _ _ σ1 (show Iv (σ.1, σ.2.1, σ.2.2) from hI.iv) c
    have F1 : Fok σ1.1 := hI.1.settled c
    obtain ⟨ws, pile, ps⟩ := σ1
    have hl := F1.len
    unfold b_M_termEnds_57 b_M_termEnds_85
    refine sp_M_topOp b.2.1 hl ?_
    rw [b.2.2]
    refine ⟨fun q => absurd q (by decide), fun _ => ?_⟩
    cases ws with
    | nil => exact ⟨fun q => absurd (show (0 : Int32) = 4 from q) (by decide), fun _ => ⟨fun q => absurd (show (0 : Int32) = 5 from q) (by decide), fun _ => ⟨fun q => absurd (show (0 : Int32) = 6 from q) (by decide), fun _ => hnil _ h' c b⟩⟩⟩
    | cons f l =>
      simp only [List.length_cons] at hl
      have hlt : f.1 < 28 := by have := F1.top.1; omega
      have hcn := F1.top.2.1
      have hpl := F1.top.2.2
      obtain ⟨⟨z1, z2, z3, z4⟩, hB, hPi, hn, _⟩ := I1
      simp only [List.length_cons] at z1 z2 z3 hn hB hPi
      have e2 : nd (f :: l) = nd1 f + nd l := rfl
      show (nI (rop f.1) = 4 → b_M_termEnds_86 post (nI (rop f.1)) h') ∧ (¬ nI (rop f.1) = 4 → ((nI (rop f.1) = 5 → b_M_termEnds_86 post (nI (rop f.1)) h') ∧ (¬ nI (rop f.1) = 5 → ((nI (rop f.1) = 6 → b_M_termEnds_86 post (nI (rop f.1)) h') ∧ (¬ nI (rop f.1) = 6 → post h')))))
      have e23 : nI (rop f.1) = 4 ↔ f.1 = 23 := ropI 23 hlt
      have e24 : nI (rop f.1) = 5 ↔ f.1 = 24 := ropI 24 hlt
      have e25 : nI (rop f.1) = 6 ↔ f.1 = 25 := ropI 25 hlt
      have b86 : fnF f → b_M_termEnds_86 post (nI (rop f.1)) h' := by
        intro hfn
        unfold fnF at hfn
        have w28 : h'.1 39 28 = nI (l.length + 1) := b.2.1.1
        have w56 : h'.1 56 l.length = nI (cRd f) := b.2.1.2.2.1.2.2.1
        have w55 : h'.1 55 l.length = nI f.2.1 := b.2.1.2.2.1.2.1
        have hin : vp_in (nI l.length) 300 := vp_in_nI (by omega) (by decide)
        unfold b_M_termEnds_86
        rw [w28, nI_pred, nI_clamp' (by omega), w56, nI_1]
        refine ⟨hin, hin, fun h5 g5 => ?_⟩
        have v28 : h5.1 39 28 = nI (l.length + 1) := by rw [g5]; simp [zi1]; exact w28
        have v56 : h5.1 56 l.length = nI (cRd f + 1) := by rw [g5]; simp [zi1]
        have v55 : h5.1 55 l.length = nI f.2.1 := by rw [g5]; simp [zi1]; exact w55
        have f5 : FK keepC h h5 := by rw [g5]; exact b.1.zi nkC
        have z5 : h5.1 39 24 = 0 := by rw [g5]; simp [zi1]; exact b.2.2
        rw [v28, nI_pred, nI_clamp' (by omega), v56, e25]
        have cr : cRd f ≤ 1 := by
          unfold cRd
          by_cases c9 : f.1 = 23 ∨ f.1 = 24
          · rw [if_pos c9]; exact hcn
          · rw [if_neg c9]; split <;> omega
        have full : fullF f → b_M_termEnds_131 post (nI (rop f.1)) 1 h5 := by
          intro hfu
          unfold fullF at hfu
          have ec : cRd f + 1 = cRd (f.1, f.2.1, 2) := by
            unfold cRd
            rcases hfu with e | ⟨e, e3⟩
            · rw [if_neg (by omega), if_pos e, if_neg (by simp only; omega), if_pos e]; simp only; omega
            · rw [if_pos e, if_pos e, e3]
          have a5 : RM h5 ((f.1, f.2.1, 2) :: l, pile, ps) := by rw [g5, ec]; exact b.2.1.frame
          unfold b_M_termEnds_131 b_M_termEnds_179
          rw [v28, nI_pred, nI_clamp' (by omega), v55, e25]
          refine ⟨fun _ => ⟨fun q => ⟨hin, ?_⟩, fun q => ⟨hin, ?_⟩⟩, fun q => absurd q (by decide)⟩
          · have e9 : (f.1 = 23 ∨ f.1 = 24) ∧ f.2.2 = 1 := by omega
            have ht : two f.1 := by unfold two; omega
            have e1 : nd1 f = 1 := by
              have nb : isBin f.1 = false := by rcases e9.1 with e | e <;> rw [e] <;> rfl
              unfold nd1; rw [if_neg (by omega), nb, if_neg (by simp; omega), if_pos e9.1]; exact e9.2
            have hfb' := hfb f l (pile, ps)
            have hfl' := hfull f l (pile, ps)
            simp only [combBin ht] at hfb' hfl'
            revert hfb' hfl'
            match pile, a5, hPi, hn, z2, c with
            | [], _, _, hn, _, _ => simp only [List.length_nil] at hn; omega
            | [_], _, _, hn, _, _ => simp only [List.length_cons, List.length_nil] at hn; omega
            | r :: x :: t, a5, hPi, hn, z2, c =>
              intro hfb' hfl'
              simp only [List.length_cons] at hn z2
              exact sp_M_doTwo a5 z5 ht hB z3 (by simp only [List.length_cons]; omega) (by omega) hpl (hPi x (by simp)) (hPi r (by simp)) (fun e h9 d1 d2 => hfb' e h9 c (Or.inr e9) d1 (d2.pre f5)) (fun q9 h9 d1 d2 => hfl' q9 h9 c (Or.inr e9) d1 (d2.pre f5))
          · have hfb' := hfb f l (pile, ps)
            have hfl' := hfull f l (pile, ps)
            simp only [combOne (Or.inr (Or.inl q))] at hfb' hfl'
            have e6 : (6 : Int32) = nI (rop f.1) := (e25.mpr q).symm
            rw [e6]
            revert hfb' hfl'
            match pile, a5, hPi, hn, z2, c with
            | [], _, _, hn, _, _ => simp only [List.length_nil] at hn; omega
            | x :: t, a5, hPi, hn, z2, c =>
              intro hfb' hfl'
              simp only [List.length_cons] at hn z2
              exact sp_M_doOne a5 z5 (Or.inr (Or.inl q)) hB z3 (by simp only [List.length_cons]; omega) (by omega) hpl (hPi x (by simp)) (fun e h9 d1 d2 => hfb' e h9 c (Or.inl q) d1 (d2.pre f5)) (fun q9 h9 d1 d2 => hfl' q9 h9 c (Or.inl q) d1 (d2.pre f5))
        unfold b_M_termEnds_123
        refine ⟨hin, fun q => ?_, fun q => ?_⟩
        · have e9 : f.1 = 23 ∨ f.1 = 24 := by omega
          have ec : cRd f = f.2.2 := by unfold cRd; rw [if_pos e9]
          rw [nI_lit (d := 2) (by omega) (by decide), ec]
          refine ⟨fun q2 => ?_, fun q2 => full (Or.inr ⟨e9, by omega⟩)⟩
          have c0 : f.2.2 = 0 := by omega
          unfold b_M_termEnds_131
          refine ⟨fun q => absurd rfl q, fun _ => hmore f l _ h5 c e9 c0 ⟨f5, ?_, z5⟩⟩
          have e3 : cRd f + 1 = cRd (f.1, f.2.1, 1) := by unfold cRd; rw [if_pos e9, if_pos e9, c0]
          rw [g5, e3]; exact b.2.1.frame
        · have ec : cRd f = 0 := by unfold cRd; rw [if_neg (by omega), if_pos q]; omega
          rw [nI_lit (d := 1) (by omega) (by decide), ec]
          exact ⟨fun q2 => absurd rfl q2, fun _ => full (Or.inl q)⟩
      rw [e23, e24, e25]
      unfold fnF at b86
      exact ⟨fun q => b86 (by omega), fun q1 => ⟨fun q => b86 (by omega), fun q2 => ⟨fun q => b86 (by omega), fun q3 => hplain f l _ h' c (by unfold fnF; omega) b⟩⟩⟩
/-! holding an operator -/
def hld (h : zH) (n op pl : Nat) : zH := zi (zi (zi (zi h 54 n (nI (rop op))) 55 n (nI pl)) 56 n 0) 39 28 (nI (n + 1))
theorem sp_M_hold {h : zH} {n op pl : Nat} {post : zH → Prop} (e : h.1 39 28 = nI n) (hn : n < 300) (hp : post (hld h n op pl)) : wp_M_hold (nI (rop op)) (nI pl) h post := by
  have hin : vp_in (nI n) 300 := vp_in_nI hn (by decide)
  unfold wp_M_hold
  rw [e]
  refine ⟨hin, fun h1 g1 => ?_⟩
  rw [nI_clamp' (by omega)] at g1
  have e1 : h1.1 39 28 = nI n := by rw [g1]; simp [zi1, e]
  rw [e1]
  refine ⟨hin, fun h2 g2 => ?_⟩
  rw [nI_clamp' (by omega)] at g2
  have e2 : h2.1 39 28 = nI n := by rw [g2]; simp [zi1, e1]
  rw [e2]
  refine ⟨hin, fun h3 g3 h4 g4 => ?_⟩
  rw [nI_clamp' (by omega)] at g3
  have e3 : h3.1 39 28 = nI n := by rw [g3]; simp [zi1, e2]
  rw [e3, nI_1] at g4
  rw [g4, g3, g2, g1]; exact hp
theorem RM.hold {h0 h : zH} {ws : List Fr} {q : List Nat × List Pt} {op pl : Nat} (a : RM h0 (ws, q)) (e : h = h0 ∨ ∃ x, h = zi h0 39 31 x) (e31 : h.1 39 31 = nI (nst ((op, pl, 0) :: ws))) : RM (hld h ws.length op pl) ((op, pl, 0) :: ws, q) := by
  obtain ⟨a1, a2, a3, a4, a5, a6, a7⟩ := a
  have s : (∀ i, i ≠ 31 → h.1 39 i = h0.1 39 i) ∧ (∀ c, c ≠ 39 → h.1 c = h0.1 c) ∧ h.2 = h0.2 := by
    rcases e with rfl | ⟨x, rfl⟩
    · exact ⟨fun _ _ => rfl, fun _ _ => rfl, rfl⟩
    · refine ⟨fun i hi => by simp [zi1, hi], fun c hc => zi_ne hc, rfl⟩
  obtain ⟨s1, s2, s3⟩ := s
  have ec : nI (cRd (op, pl, 0)) = 0 := by unfold cRd; simp only; split <;> (try split) <;> rfl
  unfold hld
  refine ⟨by simp [zi1], by simp [zi1]; exact e31, ⟨by simp [zi1], by simp [zi1], by rw [ec]; simp [zi1], StkW.same (h := h0) (fun i hi => ?_) a3⟩, by simp [zi1]; rw [s1 30 (by decide)]; exact a4, StkY.same (h := h0) (fun i _ => by simp [zi1]; rw [s2 57 (by decide)]) a5, by simp [zi1]; rw [s1 22 (by decide)]; exact a6, RMt.same (h := h0) (fun c i h1 h2 _ => ⟨by rw [zi_ne (by omega), zi_ne (by omega), zi_ne (by omega), zi_ne (by omega), s2 c (by omega)], by simp only [zi2]; rw [s3]⟩) a7⟩
  have hne : ¬ i = ws.length := by omega
  simp only [zi1, hne, and_false, if_false]
  simp only [Nat.reduceEqDiff, false_and, if_false]
  rw [s2 54 (by decide), s2 55 (by decide), s2 56 (by decide)]
  exact ⟨rfl, rfl, rfl⟩
theorem sp_M_enter {h : zH} {σ : St} {op pl : Nat} {post : zH → Prop} (a : RM h σ) (hF : Fok σ.1) (hf : h.1 39 24 = 0) (e9 : h.1 39 9 = nI pl) (hpl : pl < 100000) (hn : nsts op = true)
    (hbad : 32 ≤ nst σ.1 → ∀ h', BadM h h' (5 + 8 * pl) → post h') (hgood : ¬ 32 ≤ nst σ.1 → ∀ h', GoodM h h' ((op, pl, 0) :: σ.1, σ.2) → post h') : wp_M_enter (nI (rop op)) h post := by
  have e31 := a.2.1
  have e28 := a.1
  have hl := hF.len
  have h32 := hF.2.2
  have en : nst ((op, pl, 0) :: σ.1) = nst σ.1 + 1 := nst1 hn
  unfold wp_M_enter
  rw [e31, nI_lit (d := 32) (by omega) (by decide), e9]
  refine ⟨fun q => ?_, fun q => sp_M_bad (a := 5) hf ?_⟩
  · unfold b_M_enter_18
    rw [e31, nI_1]
    intro h1 g1
    have w9 : h1.1 39 9 = nI pl := by rw [g1]; simp [zi1, e9]
    have w28 : h1.1 39 28 = nI σ.1.length := by rw [g1]; simp [zi1]; exact e28
    rw [w9]
    refine sp_M_hold w28 (by omega) (hgood (by omega) _ ⟨?_, RM.hold (h0 := h) a (Or.inr ⟨_, g1⟩) (by rw [g1, en]; simp [zi1]), ?_⟩)
    · rw [g1]; exact ((((FK.rf.zi nkC).zi nkC).zi nkC).zi nkC).zi nkC
    · rw [g1]; unfold hld; simp [zi1]; exact hf
  · unfold b_M_enter_18
    have b := BadM.mk FK.rf a hl (e := 5 + 8 * pl) (by omega)
    intro h1 g1
    have w9 : h1.1 39 9 = nI pl := by rw [g1]; simp [zi1, e9]
    have w28 : h1.1 39 28 = nI σ.1.length := by rw [g1]; simp [zi1]; exact e28
    rw [w9]
    refine sp_M_hold w28 (by omega) (hbad (by omega) _ ⟨?_, ?_, b.2.2.1, σ.1.length + 1, ?_, by omega⟩)
    · rw [g1]; exact ((((b.1.zi nkC).zi nkC).zi nkC).zi nkC).zi nkC
    · rw [g1]; unfold hld; simp [zi1]
    · unfold hld; simp [zi1]
