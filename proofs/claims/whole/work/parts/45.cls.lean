theorem go22 {h : zH} {k : Nat} {s : Int} {l1 : Int32} {σ : St} {post : Int32 → zH → Prop} (hs : 0 ≤ s ∧ s ≤ 5) (hr : RP h k σ) (hI : Iv σ) (hf : h.1 29 10 = 0) (hw : h.1 29 9 = 2)
    (hB : ∀ e h9, stl (if s = 0 ∨ s = 3 then s + 1 else s) σ.1 σ.2.1 σ.2.2 = .error e → Bad h h9 k e → post 1 h9)
    (hK : ∀ σ1 h9, stl (if s = 0 ∨ s = 3 then s + 1 else s) σ.1 σ.2.1 σ.2.2 = .ok σ1 → Good h h9 k σ1 → (s = 3 → topS σ1.1 = 3 → post 0 h9) ∧ (¬ (s = 3 ∧ topS σ1.1 = 3) → b_P_goesOn_71 post l1 h9)) : b_P_goesOn_22 post l1 (Int32.ofInt s) h := by
  unfold b_P_goesOn_22
  have n1 : ¬ Int32.ofInt s = -1 := by rcases (show s = 0 ∨ s = 1 ∨ s = 2 ∨ s = 3 ∨ s = 4 ∨ s = 5 by omega) with rfl | rfl | rfl | rfl | rfl | rfl <;> decide
  have n6 : ¬ Int32.ofInt s = 6 := by rcases (show s = 0 ∨ s = 1 ∨ s = 2 ∨ s = 3 ∨ s = 4 ∨ s = 5 by omega) with rfl | rfl | rfl | rfl | rfl | rfl <;> decide
  have n3 : Int32.ofInt s = 3 ↔ s = 3 := by rcases (show s = 0 ∨ s = 1 ∨ s = 2 ∨ s = 3 ∨ s = 4 ∨ s = 5 by omega) with rfl | rfl | rfl | rfl | rfl | rfl <;> decide
  refine ⟨fun q => absurd q n1, fun _ => ⟨fun _ => sp_P_leastSettledBy hs ?_, fun q => absurd q n6⟩⟩
  refine sp_P_settle (by split <;> omega) hr hI hf hw ?_ ?_
  · intro e h9 d1 d2
    refine ⟨fun q => ?_, fun _ => hB e h9 d1 d2⟩
    rw [d2.2.1] at q
    have := (nI_lit (d := 0) (by have := d2.2.2.2.1; omega) (by decide)).mp q
    have := d2.2.2.2.1
    omega
  · intro σ1 h9 d1 d2
    obtain ⟨I1, I2⟩ := stl_Iv (by split <;> omega) _ _ _ σ1 (show Iv (σ.1, σ.2.1, σ.2.2) from hI) d1
    obtain ⟨k1, k2⟩ := hK σ1 h9 d1 d2
    refine ⟨fun _ => ⟨fun q => k2 (fun z => q (n3.mpr z.1)), fun q => sp_G_topStrength d2.2.1.2.2.1 I1.1.1 I1.1.2.2.2 ?_⟩, fun q => absurd (d2.2.2.2.trans hf) q⟩
    have hs3 := n3.mp q
    have tb : -1 ≤ topS σ1.1 ∧ topS σ1.1 ≤ 6 := by
      cases σ1.1 with
      | nil => show (-1 : Int) ≤ -1 ∧ (-1 : Int) ≤ 6; omega
      | cons f l => exact stg_rng f.1
    have t3 : Int32.ofInt (topS σ1.1) = 3 ↔ topS σ1.1 = 3 := by
      generalize topS σ1.1 = z at tb
      rcases (show z = -1 ∨ z = 0 ∨ z = 1 ∨ z = 2 ∨ z = 3 ∨ z = 4 ∨ z = 5 ∨ z = 6 by omega) with rfl | rfl | rfl | rfl | rfl | rfl | rfl | rfl <;> decide
    exact ⟨fun z => k2 (fun y => z (t3.mpr y.2)), fun z => k1 hs3 (t3.mp z)⟩
theorem stg_cStr {c : Nat} (h : c ≠ 27) : stg c = cStr c := by unfold stg cStr; rw [if_neg h]
set_option maxHeartbeats 1000000 in
theorem sp_P_goesOn {h : zH} {k : Nat} {t : Tk} {σ : St} {post : Int32 → zH → Prop} (hr : RP h k σ) (hW : Iw 2 σ) (ht : KT h t) (hf : h.1 29 10 = 0) (hw : h.1 29 9 = 2)
    (hbad : ∀ e h', stepO t σ = .error e → Bad h h' k e → post 1 h') (hgood : ∀ q h', stepO t σ = .ok q → Went h h' k q.1 q.2 → post 1 h')
    (hend : ∀ σ1 h', stepO t σ = endT t σ1 → Iw 2 σ1 → Good h h' k σ1 → post 0 h') : wp_P_goesOn h post := by
  obtain ⟨t1, t2, t3, t4⟩ := id ht
  have hI := hW.iv
  unfold wp_P_goesOn
  rw [t1]
  by_cases h7 : t.1 = 7
  · refine ⟨fun q => absurd (by rw [h7]; rfl) q, fun _ => ?_⟩
    show b_P_goesOn_22 post (nI t.1) (Int32.ofInt 0) h
    have nb : ¬ isBin t.1 = true := by rw [h7]; decide
    refine go22 (by omega) hr hI hf hw ?_ ?_
    · intro e h9 d1 d2
      exact hbad e h9 (by unfold stepO; rw [if_neg nb, if_pos h7]; rw [if_pos (Or.inl rfl)] at d1; rw [show (0 : Int) + 1 = 1 from rfl] at d1; rw [d1]) d2
    · intro σ1 h9 d1 d2
      rw [if_pos (Or.inl rfl), show (0 : Int) + 1 = 1 from rfl] at d1
      refine ⟨fun q => absurd q (by decide), fun _ => ?_⟩
      have F1 : Fok σ1.1 := hW.1.settled d1
      obtain ⟨I1, I2⟩ := stl_Iv (by omega) _ _ _ σ1 (show Iv (σ.1, σ.2.1, σ.2.2) from hI) d1
      have so : stepO t σ = nestS 7 0 t.2.1 σ1 := by unfold stepO; rw [if_neg nb, if_pos h7, d1]
      unfold b_P_goesOn_71
      refine ⟨fun q => absurd (by rw [h7]; rfl) q, fun _ => ?_⟩
      refine sp_P_nest (op := 7) (m := 0) (t := t) d2.2.1 I1.1 (d2.2.2.2.trans hf) (ht.same hr.2.1 d2.1) (by decide) (by decide) (fun z => (F1.nest (op := 4) (pl := 0) (cn := 0) (by omega) rfl z (by omega) (by omega) (by omega)).2) (by have := F1.2.2; omega) ?_ ?_
      · intro e h' e1 e2; exact hbad e h' (so.trans e1) (e2.pre d2.1)
      · intro q h' e1 e2; exact hgood q h' (so.trans e1) ⟨d2.1.tr e2.1, e2.2⟩
  · refine ⟨fun _ => sp_R_strengthOf (by omega) ?_, fun q => absurd ((nI_lit (d := 7) (by omega) (by decide)).mp q) h7⟩
    rw [← stg_cStr (show t.1 ≠ 27 by omega)]
    by_cases nb : isBin t.1 = true
    · have bs := isBin_stg nb
      have er : (if stg t.1 = 0 ∨ stg t.1 = 3 then stg t.1 + 1 else stg t.1) = (if stg t.1 = 3 then 4 else stg t.1) := by
        by_cases c : stg t.1 = 3
        · rw [if_pos (Or.inr c), if_pos c, c]; rfl
        · rw [if_neg (by omega), if_neg c]
      refine go22 (by omega) hr hI hf hw ?_ ?_
      · intro e h9 d1 d2
        exact hbad e h9 (by unfold stepO; rw [if_pos nb]; rw [er] at d1; rw [d1]) d2
      · intro σ1 h9 d1 d2
        rw [er] at d1
        have F1 : Fok σ1.1 := hW.1.settled d1
        obtain ⟨I1, I2⟩ := stl_Iv (by split <;> omega) _ _ _ σ1 (show Iv (σ.1, σ.2.1, σ.2.2) from hI) d1
        refine ⟨fun q1 q2 => ?_, fun q => ?_⟩
        · exact hend σ1 h9 (by unfold stepO; rw [if_pos nb, d1]; simp only; rw [if_pos ⟨q1, q2⟩]) (I1.iw F1) d2
        · unfold b_P_goesOn_71
          refine ⟨fun _ => ?_, fun q => absurd ((nI_lit (d := 7) (by omega) (by decide)).mp q) h7⟩
          have tl : topS σ1.1 < stg t.1 := by
            by_cases c4 : stg t.1 = 3
            · rw [if_pos c4] at I2; omega
            · rw [if_neg c4] at I2; exact I2
          have K9 := ht.same hr.2.1 d2.1
          rw [K9.2.1]
          refine sp_G_push d2.2.1.2.2.1 (F1.bin (pl := 0) nb tl (by omega)).2 (by have := F1.2.2; omega) (by omega) fun h2 f2 r2 h3 e3 => ?_
          obtain ⟨ws1, pile1, ps1⟩ := σ1
          have e29 := (f2 29 (by decide)).1
          refine hgood (0, (t.1, t.2.1, 0) :: ws1, pile1, ps1) h3 (by unfold stepO; rw [if_pos nb, d1]; simp only; rw [if_neg q]) ?_
          rw [e3]
          exact ⟨(d2.1.tr (fr_31 f2)).zi (by simp [LPk]), RP_29 (by decide) (RP_push f2 d2.2.1 r2), by simp [zi1, nI], by simp only [zi1]; rw [if_neg (by decide), e29]; exact d2.2.2.2.trans hf⟩
    · have so : stepO t σ = endT t σ := by unfold stepO; rw [if_neg nb, if_neg h7]
      have out : post 0 h := hend σ h so hW ⟨fr.rf, hr, hw, rfl⟩
      have sg : stg t.1 = -1 ∨ stg t.1 = 6 := by
        have hb : t.1 < 28 := by omega
        revert nb h7 t3
        generalize t.1 = op at hb
        refine c28 (P := fun op => op < 26 → ¬ op = 7 → ¬ isBin op = true → stg op = -1 ∨ stg op = 6) hb ?_
        repeat' apply And.intro
        all_goals decide
      unfold b_P_goesOn_22 b_P_goesOn_34
      rcases sg with e | e
      · rw [e]
        exact ⟨fun _ => out, fun q => absurd rfl q⟩
      · rw [e]
        exact ⟨fun q => absurd q (by decide), fun _ => ⟨fun q => absurd rfl q, fun _ => out⟩⟩
/-- the variables -/
def RV (h : zH) (vr : Vr) : Prop := h.1 1 3 = nI vr.1 ∧ ∀ i, i < vr.1 → h.1 2 i = Int32.ofInt (vr.2.1 i) ∧ h.1 3 i = Int32.ofInt (vr.2.2 i)
theorem sp_V_has {h : zH} {n i : Nat} {post : Int32 → zH → Prop} (hn : h.1 1 3 = nI n) (h20 : n ≤ 20) (hi : i < 2147483648) (hp : post (b01 (decide (i < n))) h) : wp_V_has (nI i) h post := by
  unfold wp_V_has b_V_has_22 b_V_has_23
  have hlt : n < 2147483648 := by omega
  rw [hn]
  refine ⟨fun q => absurd q (nI_pos hi), fun _ => ⟨fun q => ⟨rfl, ?_⟩, fun q => ⟨fun q2 => ?_, fun _ => ⟨rfl, ?_⟩⟩⟩⟩
  · rw [nI_leI hlt hi] at q
    have : decide (i < n) = false := by simp; omega
    rw [this] at hp; exact hp
  · rw [nI_leI hlt hi] at q
    replace q2 := (lit_le_nI (d := 20) hi (by decide)).mp q2
    omega
  · rw [nI_leI hlt hi] at q
    have : decide (i < n) = true := by simp; omega
    rw [this] at hp; exact hp
/-- the number that a token says -/
def KN (h : zH) (t : Tk) : Prop := t.1 = 2 ∨ t.1 = 3 → h.1 30 4 = nI t.2.2.1
theorem i_nat {n : Nat} : Int32.ofInt (n : Int) = nI n := Int32.ofInt_eq_ofNat
/-- a part without parts -/
theorem sp_leaf {h : zH} {k op pl : Nat} {ex : Int32} {lo hi : Int} {c : Nat} {σ : St} {post : zH → Prop} (hr : RP h k σ) (hz : Szs σ) (hf : h.1 29 10 = 0) (g0 : h.2.1 38 0 = jL lo) (g1 : h.2.1 38 1 = jL hi) (b1 : wi lo) (b2 : wi hi) (hop : op = 2 ∨ op = 3) (hex : ex = if op = 3 then nI c else -1) (hpl : pl < 100000)
    (hbad : ∀ e h', leafS σ (op, pl, 0, lo, hi, 0, 0, c, 1) = .error e → Bad h h' k e → post h') (hgood : ∀ q h', leafS σ (op, pl, 0, lo, hi, 0, 0, c, 1) = .ok q → Went h h' k q.1 q.2 → post h') : wp_P_addPart (nI op) (nI pl) (nI 0) ex h post := by
  refine sp_P_addPart hr hz g0 g1 (wi_i32 b1) (wi_i32 b2) ?_ ?_
  · intro e
    refine hbad (6 + 8 * pl) _ ?_ (Bad.blame fr.rf hr.2.2.1 hz.1 hz.2.2.2 (by omega))
    unfold leafS addp
    rw [if_neg (by omega)]
    rfl
  · intro hl h' f1 rG rL sz st pt w9 w10 e2
    refine hgood (2, σ.1, σ.2.2.length :: σ.2.1, (op, pl, 0, lo, hi, 0, 0, c, 1) :: σ.2.2) h' ?_ ⟨f1, ⟨by rw [e2]; exact hr.1, hr.2.1, rG, rL, ?_, ?_, st⟩, w9, w10.trans hf⟩
    · unfold leafS addp
      rw [if_pos hl]
    · exact sz
    · obtain ⟨p1, p2, p3, p4, p5, p6, p7, p8, p9⟩ := pt
      have ocl : cL (op, pl, 0, lo, hi, 0, 0, c, 1) = -1 := by unfold cL; exact if_pos hop
      have ocr : cR (op, pl, 0, lo, hi, 0, 0, c, 1) = -1 := by unfold cR; exact if_pos hop
      refine ⟨p1, p2, p3, p4, p5, by rw [p6, ocl], by rw [p7, ocr], ?_, p9⟩
      rw [p8, hex]
      unfold cX
      show _ = if op = 3 then nI c else if op = 7 then _ else -1
      by_cases e : op = 3
      · rw [if_pos e, if_pos e]
      · rw [if_neg e, if_neg e, if_neg (by omega)]
theorem KT.zl {h : zH} {t : Tk} {c j : Nat} {v : Int64} (a : KT h t) : KT (zl h c j v) t := a
theorem b01f {b : Bool} : b01 b = 0 ↔ b = false := by cases b <;> decide
set_option maxHeartbeats 1000000 in
theorem sp_P_readOperand {h : zH} {k : Nat} {t : Tk} {vr : Vr} {σ : St} {post : zH → Prop} (hr : RP h k σ) (hW : Iw 0 σ) (ht : KT h t) (hN : KN h t) (hT : TkOk t) (hV : RV h vr) (hv : VrOk vr) (hf : h.1 29 10 = 0)
    (hbad : ∀ e h', stepB vr t σ = .error e → Bad h h' k e → post h') (hgood : ∀ q h', stepB vr t σ = .ok q → Went h h' k q.1 q.2 → post h') : wp_P_readOperand h post := by
  obtain ⟨t1, t2, t3, t4⟩ := id ht
  have hz := hW.szs
  have F := hW.1
  unfold wp_P_readOperand b_P_readOperand_173 b_P_readOperand_188 b_P_readOperand_203
  have hl : ∀ z : nst σ.1 < 32, σ.1.length < 197 := fun z => (F.nest (op := 4) (pl := 0) (cn := 0) (by omega) rfl z (by omega) (by omega) (by omega)).2
  have hn : nst σ.1 < 1000 := by have := F.2.2; omega
  have x38 : xRg 38 := Or.inr (Or.inr rfl)
  have bl : stepB vr t σ = .error (1 + 8 * t.2.1) → wp_P_blame 1 (h.1 30 3) h post := by
    intro e
    rw [t2]
    exact sp_P_blame (a := 1) (hbad _ _ e (Bad.blame fr.rf hr.2.2.1 hz.1 hz.2.2.2 (by omega)))
  have ne : ∀ op m : Nat, op < 27 → m < 2 → stepB vr t σ = nestS op m t.2.1 σ → wp_P_nest (nI op) (nI m) h post := by
    intro op m ho hm e
    refine sp_P_nest (t := t) hr hz hf ht ho (by omega) hl hn ?_ ?_
    · intro x h' e1 e2; exact hbad x h' (e.trans e1) e2
    · intro q h' e1 e2; exact hgood q h' (e.trans e1) e2
  rw [t1]
  have lt : t.1 < 2147483648 := by omega
  by_cases c2 : t.1 = 2
  · rw [c2]
    refine ⟨fun _ => ?_, fun q => absurd rfl q⟩
    have sb : stepB vr t σ = leafS σ (2, t.2.1, 0, (t.2.2.1 : Int), (t.2.2.1 : Int), 0, 0, 0, 1) := by unfold stepB; rw [if_pos c2]
    have w : wi (t.2.2.1 : Int) := by have := hT.2.2; unfold wi; omega
    rw [hN (Or.inl c2), ← i_nat, i2j w]
    refine sp_N_put x38 ?_
    show wp_P_addPart (nI 2) (h.1 30 3) (nI 0) (-1) _ _
    rw [t2]
    refine sp_leaf (op := 2) (c := 0) (RP_zl (RP_zl hr)) hz hf (by simp [zl2]) (by simp [zl2]) w w (Or.inl rfl) (by rw [if_neg (by decide)]) t4 ?_ ?_
    · intro x h' e1 e2; exact hbad x h' (sb.trans e1) (e2.pre ((fr.rf.zl (by simp [LPk])).zl (by simp [LPk])))
    · intro q h' e1 e2; exact hgood q h' (sb.trans e1) ⟨((fr.rf.zl (by simp [LPk])).zl (by simp [LPk])).tr e2.1, e2.2⟩
  · by_cases c3 : t.1 = 3
    · rw [c3]
      refine ⟨fun q => absurd q (by decide), fun _ => ⟨fun _ => ?_, fun q => absurd rfl q⟩⟩
      unfold wp_P_readVariable
      have nb : t.2.2.1 < 2147483648 := by have := hT.2.2; omega
      rw [hN (Or.inr c3)]
      refine sp_V_has hV.1 hv.1 nb ?_
      by_cases cv : t.2.2.1 < vr.1
      · have sb : stepB vr t σ = leafS σ (3, t.2.1, 0, vr.2.1 t.2.2.1, vr.2.2 t.2.2.1, 0, 0, t.2.2.1, 1) := by unfold stepB; rw [if_neg c2, if_pos c3, if_pos cv]
        obtain ⟨v1, v2, v3⟩ := hv.2 _ cv
        have h20 := hv.1
        rw [decide_eq_true cv]
        refine ⟨fun _ => ?_, fun q => absurd q (by decide)⟩
        unfold wp_V_lowOf
        refine sp_R_at (xRow_c 2 20) (by decide) ?_
        unfold wp_V_highOf
        refine sp_R_at (xRow_c 3 20) (by decide) ?_
        rw [fAt_nI (by omega) (by decide), fAt_nI (by omega) (by decide), (hV.2 _ cv).1, (hV.2 _ cv).2]
        show wp_N_put 38 (Int32.ofInt (vr.2.1 t.2.2.1)).toInt64 (Int32.ofInt (vr.2.2 t.2.2.1)).toInt64 h _
        rw [i2j v1, i2j v2]
        refine sp_N_put x38 ?_
        show wp_P_addPart (nI 3) (h.1 30 3) (nI 0) (nI t.2.2.1) _ _
        rw [t2]
        refine sp_leaf (op := 3) (c := t.2.2.1) (RP_zl (RP_zl hr)) hz hf (by simp [zl2]) (by simp [zl2]) v1 v2 (Or.inr rfl) (by rw [if_pos rfl]) t4 ?_ ?_
        · intro x h' e1 e2; exact hbad x h' (sb.trans e1) (e2.pre ((fr.rf.zl (by simp [LPk])).zl (by simp [LPk])))
        · intro q h' e1 e2; exact hgood q h' (sb.trans e1) ⟨((fr.rf.zl (by simp [LPk])).zl (by simp [LPk])).tr e2.1, e2.2⟩
      · rw [decide_eq_false cv]
        refine ⟨fun q => absurd rfl q, fun _ => bl ?_⟩
        unfold stepB; rw [if_neg c2, if_pos c3, if_neg cv]
    · have step : ∀ x, (if t.1 = 10 then nestS 26 0 t.2.1 σ else if t.1 = 20 ∨ t.1 = 4 then nestS t.1 0 t.2.1 σ else if t.1 = 23 ∨ t.1 = 24 ∨ t.1 = 25 then nestS t.1 1 t.2.1 σ else .error (1 + 8 * t.2.1)) = x → stepB vr t σ = x := by
        intro x e; unfold stepB; rw [if_neg c2, if_neg c3]; exact e
      have n2 : ¬ nI t.1 = 2 := fun q => c2 ((nI_lit (d := 2) lt (by decide)).mp q)
      have n3 : ¬ nI t.1 = 3 := fun q => c3 ((nI_lit (d := 3) lt (by decide)).mp q)
      refine ⟨fun q => absurd q n2, fun _ => ⟨fun q => absurd q n3, fun _ => ?_⟩⟩
      by_cases c10 : t.1 = 10
      · have := ne 26 0 (by decide) (by decide) (step _ (by rw [if_pos c10]))
        rw [c10]
        exact ⟨fun q => absurd q (by decide), fun _ => ⟨fun q => absurd q (by decide), fun _ => ⟨fun q => absurd q (by decide), fun _ => ⟨fun q => absurd q (by decide), fun _ => ⟨fun q => absurd q (by decide), fun _ => ⟨fun q => absurd q (by decide), fun _ => ⟨fun _ => this, fun q => absurd rfl q⟩⟩⟩⟩⟩⟩⟩
      by_cases c20 : t.1 = 20 ∨ t.1 = 4
      · have := ne t.1 0 (by omega) (by decide) (step _ (by rw [if_neg c10, if_pos c20]))
        have z : ∀ d : Nat, d < 2147483648 → ¬ (d = 20 ∨ d = 4) → ¬ nI t.1 = nI d := fun d hd hne q => hne (by have := (nI_eq lt hd).mp q; omega)
        refine ⟨fun _ => this, fun y0 => ⟨fun q => absurd q (z 5 (by decide) (by decide)), fun _ => ⟨fun q => absurd q (z 6 (by decide) (by decide)), fun _ => ⟨fun q => absurd q (z 7 (by decide) (by decide)), fun _ => ⟨fun q => absurd q (z 8 (by decide) (by decide)), fun _ => ⟨fun q => absurd q (z 9 (by decide) (by decide)), fun _ => ⟨fun q => absurd q (z 10 (by decide) (by decide)), fun _ => ⟨fun q => absurd q (z 11 (by decide) (by decide)), fun _ => ⟨fun q => absurd q (z 12 (by decide) (by decide)), fun _ => ⟨fun q => absurd q (z 13 (by decide) (by decide)), fun _ => ⟨fun q => absurd q (z 14 (by decide) (by decide)), fun _ => ⟨fun q => absurd q (z 15 (by decide) (by decide)), fun _ => ⟨fun q => absurd q (z 16 (by decide) (by decide)), fun _ => ⟨fun q => absurd q (z 17 (by decide) (by decide)), fun _ => ⟨fun q => absurd q (z 18 (by decide) (by decide)), fun _ => ⟨fun q => absurd q (z 19 (by decide) (by decide)), fun _ => ⟨fun _ => this, fun y1 => ?_⟩⟩⟩⟩⟩⟩⟩⟩⟩⟩⟩⟩⟩⟩⟩⟩⟩
        rcases c20 with e | e
        · exact absurd (by rw [e]; rfl) y1
        · exact absurd (by rw [e]; rfl) y0
      by_cases c23 : t.1 = 23 ∨ t.1 = 24 ∨ t.1 = 25
      · have := ne t.1 1 (by omega) (by decide) (step _ (by rw [if_neg c10, if_neg c20, if_pos c23]))
        have z : ∀ d : Nat, d < 23 → ¬ nI t.1 = nI d := fun d hd q => by have := (nI_eq lt (by omega)).mp q; omega
        refine ⟨fun q => absurd q (z 4 (by decide)), fun _ => ⟨fun q => absurd q (z 5 (by decide)), fun _ => ⟨fun q => absurd q (z 6 (by decide)), fun _ => ⟨fun q => absurd q (z 7 (by decide)), fun _ => ⟨fun q => absurd q (z 8 (by decide)), fun _ => ⟨fun q => absurd q (z 9 (by decide)), fun _ => ⟨fun q => absurd q (z 10 (by decide)), fun _ => ⟨fun q => absurd q (z 11 (by decide)), fun _ => ⟨fun q => absurd q (z 12 (by decide)), fun _ => ⟨fun q => absurd q (z 13 (by decide)), fun _ => ⟨fun q => absurd q (z 14 (by decide)), fun _ => ⟨fun q => absurd q (z 15 (by decide)), fun _ => ⟨fun q => absurd q (z 16 (by decide)), fun _ => ⟨fun q => absurd q (z 17 (by decide)), fun _ => ⟨fun q => absurd q (z 18 (by decide)), fun _ => ⟨fun q => absurd q (z 19 (by decide)), fun _ => ⟨fun q => absurd q (z 20 (by decide)), fun _ => ⟨fun q => absurd q (z 21 (by decide)), fun _ => ⟨fun q => absurd q (z 22 (by decide)), fun _ => ⟨fun _ => this, fun y0 => ⟨fun _ => this, fun y1 => ⟨fun _ => this, fun y2 => ?_⟩⟩⟩⟩⟩⟩⟩⟩⟩⟩⟩⟩⟩⟩⟩⟩⟩⟩⟩⟩⟩⟩
        rcases c23 with e | e | e
        · exact absurd (by rw [e]; rfl) y0
        · exact absurd (by rw [e]; rfl) y1
        · exact absurd (by rw [e]; rfl) y2
      have B := bl (step _ (by rw [if_neg c10, if_neg c20, if_neg c23]))
      have z : ∀ d : Nat, d < 2147483648 → (d = 10 ∨ d = 20 ∨ d = 4 ∨ d = 23 ∨ d = 24 ∨ d = 25) → ¬ nI t.1 = nI d := fun d hd hne q => by have := (nI_eq lt hd).mp q; omega
      exact ⟨fun q => absurd q (z 4 (by decide) (by decide)), fun _ => ⟨fun _ => B, fun _ => ⟨fun _ => B, fun _ => ⟨fun _ => B, fun _ => ⟨fun _ => B, fun _ => ⟨fun _ => B, fun _ => ⟨fun q => absurd q (z 10 (by decide) (by decide)), fun _ => ⟨fun _ => B, fun _ => ⟨fun _ => B, fun _ => ⟨fun _ => B, fun _ => ⟨fun _ => B, fun _ => ⟨fun _ => B, fun _ => ⟨fun _ => B, fun _ => ⟨fun _ => B, fun _ => ⟨fun _ => B, fun _ => ⟨fun _ => B, fun _ => ⟨fun q => absurd q (z 20 (by decide) (by decide)), fun _ => ⟨fun _ => B, fun _ => ⟨fun _ => B, fun _ => ⟨fun q => absurd q (z 23 (by decide) (by decide)), fun _ => ⟨fun q => absurd q (z 24 (by decide) (by decide)), fun _ => ⟨fun q => absurd q (z 25 (by decide) (by decide)), fun _ => B⟩⟩⟩⟩⟩⟩⟩⟩⟩⟩⟩⟩⟩⟩⟩⟩⟩⟩⟩⟩⟩⟩
theorem sp_P_readBracket {h : zH} {k : Nat} {t : Tk} {σ : St} {post : zH → Prop} (hr : RP h k σ) (hz : Szs σ) (ht : KT h t) (hf : h.1 29 10 = 0)
    (hbad : ¬ t.1 = 4 → ∀ h', Bad h h' k (1 + 8 * t.2.1) → post h') (hgood : t.1 = 4 → ∀ h', Went h h' k 0 σ → post h') : wp_P_readBracket h post := by
  obtain ⟨t1, t2, t3, t4⟩ := id ht
  unfold wp_P_readBracket
  rw [t1, t2]
  refine ⟨fun q => ?_, fun q h3 e3 => ?_⟩
  · exact sp_P_blame (a := 1) (hbad (fun e => q (by rw [e]; rfl)) _ (Bad.blame fr.rf hr.2.2.1 hz.1 hz.2.2.2 (by omega)))
  · refine hgood ((nI_lit (d := 4) (by omega) (by decide)).mp q) h3 ?_
    rw [e3]
    exact ⟨fr.rf.zi (by simp [LPk]), RP_29 (by decide) hr, by simp [zi1, nI], by simp [zi1, hf]⟩
