theorem wi_i32 {a : Int} (h : wi a) : -2147483648 ≤ a ∧ a < 2147483648 := by unfold wi at h; omega
theorem i2j {a : Int} (h : wi a) : (Int32.ofInt a).toInt64 = jL a := by
  have := wi_i32 h
  exact j_of (wi_sm h) (by rw [Int32.toInt_toInt64, i3 this.1 this.2])
/-- what holds of every part, its meaning apart -/
def Bas (ps : List Pt) : Prop := ∀ i, i < ps.length → pKd (pget ps i) < 2 ∧ pDp (pget ps i) ≤ i + 1 ∧ wi (pLo (pget ps i)) ∧ wi (pHi (pget ps i)) ∧ pLo (pget ps i) ≤ pHi (pget ps i)
theorem Bas.kd {ps : List Pt} (h : Bas ps) : kdOk ps := fun i hi => (h i hi).1
theorem Bas.dp {ps : List Pt} (h : Bas ps) (hl : ps.length ≤ 100) : dpOk ps := fun i hi => by have := (h i hi).2.1; omega
theorem mn4_mx4 (a b c d : Int) : mn4 a b c d ≤ mx4 a b c d := by unfold mn4 mx4; omega
theorem sm_mn4 {a b c d : Int} (ha : sm a) (hb : sm b) (hc : sm c) (hd : sm d) : sm (mn4 a b c d) := sm_min (sm_min ha hb) (sm_min hc hd)
theorem sm_mx4 {a b c d : Int} (ha : sm a) (hb : sm b) (hc : sm c) (hd : sm d) : sm (mx4 a b c d) := sm_max (sm_max ha hb) (sm_max hc hd)
/-- a range that an operator gives is one, and fits a long -/
theorem rgC_ok {op : Nat} {a b c d : Int} (hop : isOp op) (ha : wi a) (hb : wi b) (hc : wi c) (hd : wi d) (hab : a ≤ b) (hcd : c ≤ d) (hz : op = 13 → ¬ (c ≤ 0 ∧ 0 ≤ d)) : sm (rgC op a b c d).1 ∧ sm (rgC op a b c d).2 ∧ (rgC op a b c d).1 ≤ (rgC op a b c d).2 := by
  have sa := wi_sm ha
  have sb := wi_sm hb
  have sc := wi_sm hc
  have sd := wi_sm hd
  have d01 : sm (0 : Int) ∧ sm (1 : Int) ∧ (0 : Int) ≤ 1 := by unfold sm; omega
  rcases hop with rfl | rfl | rfl | rfl | rfl | rfl | rfl | rfl | rfl | rfl | rfl | rfl | rfl | rfl | rfl | rfl | rfl | rfl | rfl
  · show sm (min a c) ∧ sm (max b d) ∧ min a c ≤ max b d
    exact ⟨sm_min sa sc, sm_max sb sd, by omega⟩
  · show sm (a + c) ∧ sm (b + d) ∧ a + c ≤ b + d
    unfold wi at *; unfold sm; omega
  · show sm (a - d) ∧ sm (b - c) ∧ a - d ≤ b - c
    unfold wi at *; unfold sm; omega
  · exact ⟨sm_mn4 (wi_mul ha hc) (wi_mul ha hd) (wi_mul hb hc) (wi_mul hb hd), sm_mx4 (wi_mul ha hc) (wi_mul ha hd) (wi_mul hb hc) (wi_mul hb hd), mn4_mx4 _ _ _ _⟩
  · exact ⟨sm_mn4 (wi_div ha) (wi_div ha) (wi_div hb) (wi_div hb), sm_mx4 (wi_div ha) (wi_div ha) (wi_div hb) (wi_div hb), mn4_mx4 _ _ _ _⟩
  · have hzz := hz rfl
    show sm (if a < 0 then -(min (max (ab c) (ab d) - 1) (-a)) else 0) ∧ sm (if 0 < b then min (max (ab c) (ab d) - 1) b else 0) ∧ (if a < 0 then -(min (max (ab c) (ab d) - 1) (-a)) else 0) ≤ (if 0 < b then min (max (ab c) (ab d) - 1) b else 0)
    unfold wi at *; unfold sm ab
    omega
  · exact d01
  · exact d01
  · exact d01
  · exact d01
  · exact d01
  · exact d01
  · exact d01
  · exact d01
  · exact d01
  · show sm (min a c) ∧ sm (min b d) ∧ min a c ≤ min b d
    exact ⟨sm_min sa sc, sm_min sb sd, by omega⟩
  · show sm (max a c) ∧ sm (max b d) ∧ max a c ≤ max b d
    exact ⟨sm_max sa sc, sm_max sb sd, by omega⟩
  · show sm (if c ≤ 0 ∧ 0 ≤ d then 0 else min (ab c) (ab d)) ∧ sm (max (ab c) (ab d)) ∧ (if c ≤ 0 ∧ 0 ≤ d then 0 else min (ab c) (ab d)) ≤ max (ab c) (ab d)
    unfold wi at *; unfold sm ab
    omega
  · show sm (-d) ∧ sm (-c) ∧ -d ≤ -c
    unfold wi at *; unfold sm; omega
/-- the part that Parser.combine makes of code c: x its left, y its right, z ahead of a ? -/
def mkP (c pl kd : Nat) (q : Int × Int) (x y z D : Nat) : Pt := if c = 7 then (7, pl, kd, q.1, q.2, z, x, y, D) else if c = 20 ∨ c = 25 ∨ c = 26 then (c, pl, kd, q.1, q.2, y, 0, 0, D) else (c, pl, kd, q.1, q.2, x, y, 0, D)
def dpC (c : Nat) (ps : List Pt) (x y z : Nat) : Nat := (if c = 7 then max (max (pDp (pget ps x)) (pDp (pget ps y))) (pDp (pget ps z)) else max (pDp (pget ps x)) (pDp (pget ps y))) + 1
def cmb (c pl x y z : Nat) (pile : List Nat) (ps : List Pt) : Except Nat (List Nat × List Pt) :=
  if cFit c (pKd (pget ps x)) (pKd (pget ps y)) (pKd (pget ps z)) = false then .error (2 + 8 * pl)
  else if (c = 12 ∨ c = 13) ∧ pLo (pget ps y) ≤ 0 ∧ 0 ≤ pHi (pget ps y) then .error (3 + 8 * pl)
  else if (rgC c (pLo (pget ps x)) (pHi (pget ps x)) (pLo (pget ps y)) (pHi (pget ps y))).1 < -EG ∨ EG < (rgC c (pLo (pget ps x)) (pHi (pget ps x)) (pLo (pget ps y)) (pHi (pget ps y))).2 then .error (4 + 8 * pl)
  else addp pile ps (mkP c pl (kG c (pKd (pget ps y))) (rgC c (pLo (pget ps x)) (pHi (pget ps x)) (pLo (pget ps y)) (pHi (pget ps y))) x y z (dpC c ps x y z))
/-- behind a fault -/
def Bad (h h' : zH) (k e : Nat) : Prop := fr (LPk k) h h' ∧ h'.1 29 10 = nI e ∧ h'.1 29 9 = 3 ∧ (0 < e ∧ e < 1000000) ∧ ∃ ws, RG h' ws ∧ ws.length ≤ 197 ∧ opsOk ws
/-- behind a part made -/
def Good (h h' : zH) (k : Nat) (σ : St) : Prop := fr (LPk k) h h' ∧ RP h' k σ ∧ h'.1 29 9 = 2 ∧ h'.1 29 10 = h.1 29 10
theorem RP_zl {h : zH} {k : Nat} {σ : St} {c j : Nat} {v : Int64} (a : RP h k σ) : RP (zl h c j v) k σ := ⟨a.1, a.2.1, RG.same (h := h) (fun _ _ => rfl) a.2.2.1, RL.same (h := h) rfl rfl a.2.2.2.1, RT.same (h := h) (fun _ _ => rfl) a.2.2.2.2⟩
theorem Bad.blame {h h1 : zH} {k e : Nat} {ws : List Fr} (a : fr (LPk k) h h1) (rg : RG h1 ws) (hl : ws.length ≤ 197) (ho : opsOk ws) (he : 0 < e ∧ e < 1000000) : Bad h (zi (zi h1 29 10 (nI e)) 29 9 3) k e := ⟨(a.zi (by simp [LPk])).zi (by simp [LPk]), by simp [zi1], by simp [zi1], he, ws, RG.same (h := h1) (fun c hc => by rw [zi_ne (by omega), zi_ne (by omega)]) rg, hl, ho⟩
theorem isOp_lt {c : Nat} (h : isOp c) : c < 28 := by unfold isOp at h; omega
theorem isOp_ne {c : Nat} (h : isOp c) : ¬ c = 2 ∧ ¬ c = 3 := by unfold isOp at h; omega
set_option maxHeartbeats 2000000 in
theorem sp_combine59 {h : zH} {k c pl x y z : Nat} {σ : St} {ex : Int32} {post : zH → Prop} (hr : RP h k σ) (hz : Szs σ) (hB : Bas σ.2.2) (hop : isOp c) (hx : x < σ.2.2.length) (hy : y < σ.2.2.length) (hzz : z < σ.2.2.length) (hex : ex = if c = 7 then nI z else -1) (hun : (c = 20 ∨ c = 25 ∨ c = 26) → x = y) (hfl : h.1 29 10 = 0) (hpl : pl < 100000)
    (hbad : ∀ e h', cmb c pl x y z σ.2.1 σ.2.2 = .error e → Bad h h' k e → post h') (hgood : ∀ q h', cmb c pl x y z σ.2.1 σ.2.2 = .ok q → Good h h' k (σ.1, q) → post h') : b_P_combine_59 post (nI c) (nI pl) (nI y) (nI x) ex h := by
  obtain ⟨ek, hk, rG, rL, rT⟩ := id hr
  obtain ⟨z1, z2, z3, z4⟩ := id hz
  obtain ⟨ws, pile, ps⟩ := σ
  simp only at *
  have x36 : xRg 36 := Or.inl rfl
  have x37 : xRg 37 := Or.inr (Or.inl rfl)
  have x38 : xRg 38 := Or.inr (Or.inr rfl)
  have kk := xTm_ge hk
  obtain ⟨bx1, bx2, bx3, bx4, bx5⟩ := hB x hx
  obtain ⟨by1, by2, by3, by4, by5⟩ := hB y hy
  have hc := isOp_lt hop
  have hc2 := isOp_ne hop
  unfold b_P_combine_59
  rw [ek]
  refine ⟨hk, sp_T_lowOf hk rT z3 hx ?_⟩
  rw [ek]
  refine ⟨hk, sp_T_highOf hk rT z3 hx (sp_N_put x36 ?_)⟩
  rw [i2j bx3, i2j bx4]
  generalize g21 : zl (zl h 36 0 (jL (pLo (pget ps x)))) 36 1 (jL (pHi (pget ps x))) = h21
  have r21 : RP h21 k (ws, pile, ps) := by rw [← g21]; exact RP_zl (RP_zl hr)
  rw [r21.1]
  refine ⟨hk, sp_T_lowOf hk r21.2.2.2.2 z3 hy ?_⟩
  rw [r21.1]
  refine ⟨hk, sp_T_highOf hk r21.2.2.2.2 z3 hy (sp_N_put x37 ?_)⟩
  rw [i2j by3, i2j by4]
  generalize g29 : zl (zl h21 37 0 (jL (pLo (pget ps y)))) 37 1 (jL (pHi (pget ps y))) = h29
  have r29 : RP h29 k (ws, pile, ps) := by rw [← g29]; exact RP_zl (RP_zl r21)
  have f29 : fr (LPk k) h h29 := by
    rw [← g29, ← g21]
    exact (((fr.rf.zl (by simp [LPk])).zl (by simp [LPk])).zl (by simp [LPk])).zl (by simp [LPk])
  have o29 : h29.1 = h.1 := by rw [← g29, ← g21]; rfl
  have o29r : h29.2.2 = h.2.2 := by rw [← g29, ← g21]; rfl
  have l0 : h29.2.1 36 0 = jL (pLo (pget ps x)) := by rw [← g29, ← g21]; simp [zl2]
  have l1 : h29.2.1 36 1 = jL (pHi (pget ps x)) := by rw [← g29, ← g21]; simp [zl2]
  have l2 : h29.2.1 37 0 = jL (pLo (pget ps y)) := by rw [← g29]; simp [zl2]
  have l3 : h29.2.1 37 1 = jL (pHi (pget ps y)) := by rw [← g29]; simp [zl2]
  refine sp_P_kindsFit (z := z) r29.1 hk r29.2.2.2.2 z3 hB.kd hc hx hy (fun e7 => ⟨hzz, by rw [hex, if_pos e7]⟩) ?_
  by_cases cf : cFit c (pKd (pget ps x)) (pKd (pget ps y)) (pKd (pget ps z)) = false
  · rw [cf]
    refine ⟨fun q => absurd rfl q, fun _ => sp_P_blame (a := 2) ?_⟩
    exact hbad (2 + 8 * pl) _ (by unfold cmb; rw [if_pos cf]) (Bad.blame f29 r29.2.2.1 z1 z4 (by omega))
  have cf' : cFit c (pKd (pget ps x)) (pKd (pget ps y)) (pKd (pget ps z)) = true := by
    cases hcf : cFit c (pKd (pget ps x)) (pKd (pget ps y)) (pKd (pget ps z)) with
    | true => rfl
    | false => exact absurd hcf cf
  rw [cf']
  refine ⟨fun _ => sp_R_divides hc ?_, fun q => absurd q (by decide)⟩
  have main : ¬ ((c = 12 ∨ c = 13) ∧ pLo (pget ps y) ≤ 0 ∧ 0 ≤ pHi (pget ps y)) → b_P_combine_157 post (nI c) (nI pl) (nI y) (nI x) ex h29 := by
    intro nz
    unfold b_P_combine_157
    obtain ⟨s1, s2, s3⟩ := rgC_ok hop bx3 bx4 by3 by4 bx5 by5 (fun e => fun q => nz ⟨Or.inr e, q⟩)
    refine sp_N_reckon hop l0 l1 l2 l3 bx3 bx4 by3 by4 (fun e q => nz ⟨Or.inl e, q⟩) by5 ?_
    generalize hq : rgC c (pLo (pget ps x)) (pHi (pget ps x)) (pLo (pget ps y)) (pHi (pget ps y)) = q at s1 s2 s3 ⊢
    generalize g4 : zl (zl h29 38 0 (jL q.1)) 38 1 (jL q.2) = h4
    have r4 : RP h4 k (ws, pile, ps) := by rw [← g4]; exact RP_zl (RP_zl r29)
    have f4 : fr (LPk k) h h4 := by rw [← g4]; exact (f29.zl (by simp [LPk])).zl (by simp [LPk])
    have m0 : h4.2.1 38 0 = jL q.1 := by rw [← g4]; simp [zl2]
    have m1 : h4.2.1 38 1 = jL q.2 := by rw [← g4]; simp [zl2]
    have o4 : h4.1 = h.1 := by rw [← g4]; exact o29
    refine sp_N_isBeyond x38 m0 m1 s1 s2 ?_
    by_cases be : q.1 < -2000000000 ∨ 2000000000 < q.2
    · rw [show decide (q.1 < -2000000000 ∨ 2000000000 < q.2) = true by simpa using be]
      refine ⟨fun z => absurd z (by decide), fun _ => sp_P_blame (a := 4) ?_⟩
      exact hbad (4 + 8 * pl) _ (by unfold cmb; rw [if_neg cf, if_neg nz, hq, if_pos (show q.1 < -EG ∨ EG < q.2 from be)]) (Bad.blame f4 r4.2.2.1 z1 z4 (by omega))
    · rw [show decide (q.1 < -2000000000 ∨ 2000000000 < q.2) = false by simpa using be]
      refine ⟨fun _ => ?_, fun z => absurd rfl z⟩
      refine sp_P_kindGiven r4.1 hk r4.2.2.2.2 z3 hc hy ?_
      have ecmb : cmb c pl x y z pile ps = addp pile ps (mkP c pl (kG c (pKd (pget ps y))) q x y z (dpC c ps x y z)) := by unfold cmb; rw [if_neg cf, if_neg nz, hq, if_neg (show ¬ (q.1 < -EG ∨ EG < q.2) from be)]
      have epl : pPl (mkP c pl (kG c (pKd (pget ps y))) q x y z (dpC c ps x y z)) = pl := by unfold mkP; split <;> (try split) <;> rfl
      refine sp_P_addPart r4 hz m0 m1 (by omega) (by omega) (fun hful => ?_) (fun hlt h8 f8 rG8 rL8 s8 t8 p8 w8 e8 y8 => ?_)
      · simp only at hful
        have hfx : (zi (zi h4 29 10 (nI (6 + 8 * pl))) 29 9 3).1 29 10 = nI (6 + 8 * pl) := by simp [zi1]
        refine ⟨fun _ => hbad (6 + 8 * pl) _ (by rw [ecmb]; unfold addp; rw [if_neg (by omega), epl]) (Bad.blame f4 r4.2.2.1 z1 z4 (by omega)), fun q9 => ?_⟩
        rw [hfx] at q9
        exact absurd ((nI_lit (d := 0) (by omega) (by decide)).mp q9) (by omega)
      · simp only at hlt s8 t8 p8 rL8 rG8
        have e80 : h8.1 29 10 = 0 := by rw [e8, o4]; exact hfl
        refine ⟨fun q9 => absurd e80 q9, fun _ => ?_⟩
        have ek8 : h8.2.2 29 8 = k := by rw [y8]; exact r4.1
        obtain ⟨p1, p2, p3, p4, p5, p6, p7, p8', p9⟩ := p8
        rw [ek8]
        unfold b_P_combine_221
        refine ⟨hk, sp_T_tellTaken (z := z) hk s8 t8 hlt (hB.dp z3) hx hy hc p1 (fun e7 => ⟨hzz, by rw [p8', hex, if_pos e7]⟩) ?_⟩
        refine hgood (ps.length :: pile, mkP c pl (kG c (pKd (pget ps y))) q x y z (dpC c ps x y z) :: ps) _ (by rw [ecmb]; unfold addp; rw [if_pos hlt]) ?_
        have hdp : (if c = 7 then max (max (pDp (pget ps x)) (pDp (pget ps y))) (pDp (pget ps z)) else max (pDp (pget ps x)) (pDp (pget ps y))) + 1 = dpC c ps x y z := rfl
        rw [hdp]
        generalize g11 : zi (zi (zi h8 (k + 6) ps.length (nI x)) (k + 7) ps.length (nI y)) (k + 9) ps.length (nI (dpC c ps x y z)) = h11
        have n29 : ∀ c9, c9 = 29 ∨ (31 ≤ c9 ∧ c9 ≤ 38) → h11.1 c9 = h8.1 c9 := by
          intro c9 h9
          rw [← g11, zi_ne (by omega), zi_ne (by omega), zi_ne (by omega)]
        refine ⟨?_, ⟨?_, hk, ?_, ?_, ?_, ?_, ?_⟩, ?_, ?_⟩
        · rw [← g11]
          exact (((f4.tr f8).zi (LT_LPk (by rw [LT_mem]; omega))).zi (LT_LPk (by rw [LT_mem]; omega))).zi (LT_LPk (by rw [LT_mem]; omega))
        · rw [← g11]; exact ek8
        · exact RG.same (h := h8) (fun c9 h9 => n29 c9 (by omega)) rG8
        · exact RL.same (h := h8) (by rw [n29 29 (Or.inl rfl)]) (n29 35 (by omega)) rL8
        · show h11.1 k 10 = nI (ps.length + 1)
          rw [← g11]; simp [zi1, s8]
        · have row : ∀ j, 1 ≤ j → j ≤ 9 → j ≠ 6 → j ≠ 7 → j ≠ 9 → h11.1 (k + j) ps.length = h8.1 (k + j) ps.length := by
            intro j a1 a2 a3 a4 a5
            rw [← g11, zi_ne (by omega), zi_ne (by omega), zi_ne (by omega)]
          have r6 : h11.1 (k + 6) ps.length = nI x := by rw [← g11]; simp [zi1]
          have r7 : h11.1 (k + 7) ps.length = nI y := by rw [← g11]; simp [zi1]
          have r9 : h11.1 (k + 9) ps.length = nI (dpC c ps x y z) := by rw [← g11]; simp [zi1]
          unfold PtC
          rw [row 1 (by decide) (by decide) (by decide) (by decide) (by decide), row 2 (by decide) (by decide) (by decide) (by decide) (by decide), row 3 (by decide) (by decide) (by decide) (by decide) (by decide), row 4 (by decide) (by decide) (by decide) (by decide) (by decide), row 5 (by decide) (by decide) (by decide) (by decide) (by decide), row 8 (by decide) (by decide) (by decide) (by decide) (by decide), r6, r7, r9, p1, p2, p3, p4, p5, p8', hex]
          by_cases c7 : c = 7
          · subst c7
            simp [mkP, cL, cR, cX, pOp, pPl, pKd, pLo, pHi, pA, pB, pC, pDp]
          · by_cases cu : c = 20 ∨ c = 25 ∨ c = 26
            · have hxy := hun cu
              simp [mkP, cL, cR, cX, pOp, pPl, pKd, pLo, pHi, pA, pB, pC, pDp, c7, cu, hc2.1, hc2.2, hxy]
            · simp [mkP, cL, cR, cX, pOp, pPl, pKd, pLo, pHi, pA, pB, pC, pDp, c7, cu, hc2.1, hc2.2]
        · refine StkT.same (h := h8) (fun i j hi h1 h9 => ?_) t8
          have hne : ¬ i = ps.length := by omega
          rw [← g11]; simp [zi1, hne]
        · rw [n29 29 (Or.inl rfl)]; exact w8
        · rw [n29 29 (Or.inl rfl), e8, o4]
  rcases hdv : (c == 12 || c == 13) with _ | _
  · refine ⟨fun _ => main (fun q => ?_), fun q => absurd rfl q⟩
    simp at hdv; omega
  · refine ⟨fun q => absurd q (by decide), fun _ => sp_N_hasZero x37 l2 l3 (wi_sm by3) (wi_sm by4) ?_⟩
    by_cases hz0 : pLo (pget ps y) ≤ 0 ∧ 0 ≤ pHi (pget ps y)
    · rw [show decide (pLo (pget ps y) ≤ 0 ∧ 0 ≤ pHi (pget ps y)) = true by simpa using hz0]
      refine ⟨fun q => absurd q (by decide), fun _ => sp_P_blame (a := 3) ?_⟩
      exact hbad (3 + 8 * pl) _ (by unfold cmb; rw [if_neg cf, if_pos ⟨by simpa using hdv, hz0⟩]) (Bad.blame f29 r29.2.2.1 z1 z4 (by omega))
    · rw [show decide (pLo (pget ps y) ≤ 0 ∧ 0 ≤ pHi (pget ps y)) = false by simpa using hz0]
      exact ⟨fun _ => main (fun q => hz0 q.2), fun q => absurd rfl q⟩
