theorem pget_lt {p : Pt} {ps : List Pt} {i : Nat} (h : i < ps.length) : pget (p :: ps) i = pget ps i := by
  show (if i = ps.length then p else pget ps i) = pget ps i
  rw [if_neg (by omega)]
theorem pget_eq {p : Pt} {ps : List Pt} : pget (p :: ps) ps.length = p := by
  show (if ps.length = ps.length then p else pget ps ps.length) = p
  rw [if_pos rfl]
theorem Bas.cons {p : Pt} {ps : List Pt} (h : Bas ps) (h1 : pKd p < 2) (h2 : pDp p ≤ ps.length + 1) (h3 : wi (pLo p)) (h4 : wi (pHi p)) (h5 : pLo p ≤ pHi p) : Bas (p :: ps) := by
  intro i hi
  by_cases c : i = ps.length
  · subst c; rw [pget_eq]; exact ⟨h1, h2, h3, h4, h5⟩
  · have hi2 : i < ps.length := by simp only [List.length_cons] at hi; omega
    rw [pget_lt hi2]; exact h i hi2
theorem addp_ok {t : List Nat} {ps : List Pt} {p : Pt} {q : List Nat × List Pt} (h : addp t ps p = .ok q) : ps.length < 100 ∧ q = (ps.length :: t, p :: ps) := by
  unfold addp at h
  by_cases c : ps.length < 100
  · rw [if_pos c] at h; cases h; exact ⟨c, rfl⟩
  · rw [if_neg c] at h; cases h
theorem cmb_ok {c pl x y z : Nat} {t : List Nat} {ps : List Pt} {q : List Nat × List Pt} (hop : isOp c) (hB : Bas ps) (hx : x < ps.length) (hy : y < ps.length) (hz : z < ps.length) (h : cmb c pl x y z t ps = .ok q) : ps.length < 100 ∧ q.1 = ps.length :: t ∧ Bas q.2 ∧ q.2.length = ps.length + 1 := by
  unfold cmb at h
  by_cases c1 : cFit c (pKd (pget ps x)) (pKd (pget ps y)) (pKd (pget ps z)) = false
  · rw [if_pos c1] at h; cases h
  rw [if_neg c1] at h
  by_cases c2 : (c = 12 ∨ c = 13) ∧ pLo (pget ps y) ≤ 0 ∧ 0 ≤ pHi (pget ps y)
  · rw [if_pos c2] at h; cases h
  rw [if_neg c2] at h
  obtain ⟨bx1, bx2, bx3, bx4, bx5⟩ := hB x hx
  obtain ⟨by1, by2, by3, by4, by5⟩ := hB y hy
  obtain ⟨bz1, bz2, bz3, bz4, bz5⟩ := hB z hz
  obtain ⟨s1, s2, s3⟩ := rgC_ok hop bx3 bx4 by3 by4 bx5 by5 (fun e => fun q => c2 ⟨Or.inr e, q⟩)
  generalize hq : rgC c (pLo (pget ps x)) (pHi (pget ps x)) (pLo (pget ps y)) (pHi (pget ps y)) = r at s1 s2 s3 h
  by_cases c3 : r.1 < -EG ∨ EG < r.2
  · rw [if_pos c3] at h; cases h
  rw [if_neg c3] at h
  obtain ⟨hl, rfl⟩ := addp_ok h
  refine ⟨hl, rfl, ?_, rfl⟩
  have hk2 : kG c (pKd (pget ps y)) < 2 := by unfold kG; split <;> (try split) <;> omega
  have hd : dpC c ps x y z ≤ ps.length + 1 := by unfold dpC; split <;> omega
  have w1 : wi r.1 := by unfold EG at c3; unfold wi; omega
  have w2 : wi r.2 := by unfold EG at c3; unfold wi; omega
  refine hB.cons ?_ ?_ ?_ ?_ ?_
  · unfold mkP; split <;> (try split) <;> exact hk2
  · unfold mkP; split <;> (try split) <;> exact hd
  · unfold mkP; split <;> (try split) <;> exact w1
  · unfold mkP; split <;> (try split) <;> exact w2
  · unfold mkP; split <;> (try split) <;> exact s3
theorem comb_ok {f : Fr} {pile : List Nat} {ps : List Pt} {q : List Nat × List Pt} (hB : Bas ps) (hPi : ∀ x ∈ pile, x < ps.length) (hop : f.1 = 27 ∨ (9 ≤ f.1 ∧ f.1 ≤ 26)) (h : comb f.1 f.2.1 pile ps = .ok q) : ps.length < 100 ∧ Bas q.2 ∧ q.2.length = ps.length + 1 ∧ (∀ x ∈ q.1, x < q.2.length) ∧ q.1.length + ar f.1 = pile.length + 1 := by
  have fin : ∀ (c x y z : Nat) (t : List Nat), isOp c → x < ps.length → y < ps.length → z < ps.length → cmb c f.2.1 x y z t ps = .ok q → (∀ w ∈ t, w < ps.length) → t.length + ar f.1 = pile.length → ps.length < 100 ∧ Bas q.2 ∧ q.2.length = ps.length + 1 ∧ (∀ x ∈ q.1, x < q.2.length) ∧ q.1.length + ar f.1 = pile.length + 1 := by
    intro c x y z t ho hx hy hz hc ht hl
    obtain ⟨a1, a2, a3, a4⟩ := cmb_ok ho hB hx hy hz hc
    refine ⟨a1, a3, a4, ?_, ?_⟩
    · rw [a2, a4]
      intro w hw
      rcases List.mem_cons.mp hw with rfl | hw
      · omega
      · have := ht w hw; omega
    · rw [a2]; simp only [List.length_cons]; omega
  unfold comb at h
  by_cases h27 : f.1 = 27
  · rw [if_pos h27] at h
    match pile, h with
    | [], h => unfold comb3 at h; cases h
    | [_], h => unfold comb3 at h; cases h
    | [_, _], h => unfold comb3 at h; cases h
    | z :: y :: x :: t, h =>
      have hz := hPi z (by simp)
      have hy := hPi y (by simp)
      have hx := hPi x (by simp)
      obtain ⟨bx1, bx2, bx3, bx4, bx5⟩ := hB x hx
      obtain ⟨by1, by2, by3, by4, by5⟩ := hB y hy
      obtain ⟨bz1, bz2, bz3, bz4, bz5⟩ := hB z hz
      rw [comb3_eq bx1 by1 bz1 by3 by4 bz3 bz4] at h
      exact fin 7 y z x t (Or.inl rfl) hy hz hx h (fun w hw => hPi w (by simp [hw])) (by unfold ar; rw [if_pos h27]; simp)
  · rw [if_neg h27] at h
    by_cases hu : f.1 = 20 ∨ f.1 = 25 ∨ f.1 = 26
    · rw [if_pos hu] at h
      match pile, h with
      | [], h => unfold comb1 at h; cases h
      | r :: t, h =>
        have hr := hPi r (by simp)
        obtain ⟨br1, br2, br3, br4, br5⟩ := hB r hr
        rw [comb1_eq (z := r) hu br1 br3 br4] at h
        exact fin f.1 r r r t (by unfold isOp; omega) hr hr hr h (fun w hw => hPi w (by simp [hw])) (by unfold ar; rw [if_neg h27, if_pos hu]; simp)
    · rw [if_neg hu] at h
      match pile, h with
      | [], h => unfold comb2 at h; cases h
      | [_], h => unfold comb2 at h; cases h
      | r :: l :: t, h =>
        have hr := hPi r (by simp)
        have hl := hPi l (by simp)
        obtain ⟨br1, br2, br3, br4, br5⟩ := hB r hr
        obtain ⟨bl1, bl2, bl3, bl4, bl5⟩ := hB l hl
        rw [comb2_eq (z := r) (by omega) bl1 br1] at h
        exact fin f.1 l r r t (by unfold isOp; omega) hl hr hr h (fun w hw => hPi w (by simp [hw])) (by unfold ar; rw [if_neg h27, if_neg hu]; simp)
/-- how many parts the operators that wait have already -/
def nd1 (f : Fr) : Nat := if f.1 = 27 then 2 else if isBin f.1 = true ∨ f.1 = 7 then 1 else if f.1 = 23 ∨ f.1 = 24 then f.2.2 else 0
def nd : List Fr → Nat
  | [] => 0
  | f :: l => nd1 f + nd l
/-- the machine's state, an operator wanted -/
def Iv (σ : St) : Prop := Szs σ ∧ Bas σ.2.2 ∧ (∀ x ∈ σ.2.1, x < σ.2.2.length) ∧ σ.2.1.length = nd σ.1 + 1 ∧ ∀ f ∈ σ.1, f.2.1 < 100000
theorem stg_op {op : Nat} (h : 0 ≤ stg op) : (op = 27 ∨ (9 ≤ op ∧ op ≤ 26)) ∧ ar op = nd1 (op, 0, 0) + 1 ∧ (op ≠ 23 ∧ op ≠ 24) := by
  unfold stg at h
  have h1 : op = 27 ∨ op = 22 ∨ op = 21 ∨ (14 ≤ op ∧ op ≤ 19) ∨ (op = 9 ∨ op = 10) ∨ (11 ≤ op ∧ op ≤ 13) ∨ (op = 20 ∨ op = 26) := by
    by_cases a1 : op = 27
    · exact Or.inl a1
    rw [if_neg a1] at h
    by_cases a2 : op = 22
    · exact Or.inr (Or.inl a2)
    rw [if_neg a2] at h
    by_cases a3 : op = 21
    · exact Or.inr (Or.inr (Or.inl a3))
    rw [if_neg a3] at h
    by_cases a4 : 14 ≤ op ∧ op ≤ 19
    · exact Or.inr (Or.inr (Or.inr (Or.inl a4)))
    rw [if_neg a4] at h
    by_cases a5 : op = 9 ∨ op = 10
    · exact Or.inr (Or.inr (Or.inr (Or.inr (Or.inl a5))))
    rw [if_neg a5] at h
    by_cases a6 : 11 ≤ op ∧ op ≤ 13
    · exact Or.inr (Or.inr (Or.inr (Or.inr (Or.inr (Or.inl a6)))))
    rw [if_neg a6] at h
    by_cases a7 : op = 20 ∨ op = 26
    · exact Or.inr (Or.inr (Or.inr (Or.inr (Or.inr (Or.inr a7)))))
    rw [if_neg a7] at h
    omega
  refine ⟨by omega, ?_, by omega⟩
  have hlt : op < 28 := by omega
  revert h1
  refine c28 (P := fun op => (op = 27 ∨ op = 22 ∨ op = 21 ∨ (14 ≤ op ∧ op ≤ 19) ∨ (op = 9 ∨ op = 10) ∨ (11 ≤ op ∧ op ≤ 13) ∨ (op = 20 ∨ op = 26)) → ar op = nd1 (op, 0, 0) + 1) hlt ?_
  simp [ar, nd1, isBin]
theorem nd1_eq {f : Fr} (h : f.1 ≠ 23 ∧ f.1 ≠ 24) : nd1 f = nd1 (f.1, 0, 0) := by
  unfold nd1
  by_cases a : f.1 = 27
  · rw [if_pos a, if_pos a]
  · rw [if_neg a, if_neg a]
    by_cases b : isBin f.1 = true ∨ f.1 = 7
    · rw [if_pos b, if_pos b]
    · rw [if_neg b, if_neg b, if_neg (by omega), if_neg (by omega)]
theorem Iv.step {f : Fr} {ws : List Fr} {pile : List Nat} {ps : List Pt} {q : List Nat × List Pt} (hI : Iv (f :: ws, pile, ps)) (hs : 0 ≤ stg f.1) (h : comb f.1 f.2.1 pile ps = .ok q) : Iv (ws, q) := by
  obtain ⟨⟨z1, z2, z3, z4⟩, hB, hPi, hn, hpl⟩ := hI
  simp only [List.length_cons] at z1 z2 z3 hn hB hPi
  obtain ⟨s1, s2, s3⟩ := stg_op hs
  obtain ⟨a1, a2, a3, a4, a5⟩ := comb_ok hB hPi s1 h
  have e1 := nd1_eq s3
  have e2 : nd (f :: ws) = nd1 f + nd ws := rfl
  refine ⟨⟨by simp only; omega, by simp only; omega, by simp only; omega, fun g hg => z4 g (List.mem_cons_of_mem _ hg)⟩, a2, a4, by simp only; omega, fun g hg => hpl g (List.mem_cons_of_mem _ hg)⟩
theorem stg_rng (op : Nat) : -1 ≤ stg op ∧ stg op ≤ 6 := by
  unfold stg
  repeat' split
  all_goals omega
theorem i_lt {a b : Int} (ha : -100 ≤ a ∧ a ≤ 100) (hb : -100 ≤ b ∧ b ≤ 100) : Int32.ofInt a < Int32.ofInt b ↔ a < b := by
  rw [Int32.lt_iff_toInt_lt, i3 (by omega) (by omega), i3 (by omega) (by omega)]
set_option maxHeartbeats 1000000 in
theorem sp_settle {k : Nat} {r : Int} {post : zH → Prop} (hr0 : 0 ≤ r ∧ r ≤ 6) : ∀ (ws : List Fr) (pile : List Nat) (ps : List Pt) (h : zH) (m : Nat), ws.length < m → RP h k (ws, pile, ps) → Iv (ws, pile, ps) → h.1 29 10 = 0 → h.1 29 9 = 2 →
    (∀ e h', stl r ws pile ps = .error e → Bad h h' k e → post h') → (∀ σ h', stl r ws pile ps = .ok σ → Good h h' k σ → post h') → b_P_settle_8 post m (Int32.ofInt r) (nI ws.length) h := by
  intro ws
  induction ws with
  | nil =>
    intro pile ps h m hm hr hI hf hw hbad hgood
    cases m with
    | zero => omega
    | succ m =>
      unfold b_P_settle_8 b_P_settle_40
      exact ⟨fun _ => hgood ([], pile, ps) h rfl ⟨fr.rf, hr, hw, rfl⟩, fun q => absurd (by decide) q⟩
  | cons f l ih =>
    intro pile ps h m hm hr hI hf hw hbad hgood
    cases m with
    | zero => omega
    | succ m =>
      obtain ⟨⟨z1, z2, z3, z4⟩, hB, hPi, hn, hpl⟩ := id hI
      simp only [List.length_cons] at z1 z2 z3 hm hn hB hPi
      unfold b_P_settle_8 b_P_settle_40
      simp only [List.length_cons]
      refine ⟨fun q => absurd q (nI_nle (by omega) (by omega)), fun _ => ⟨fun q => absurd hf q, fun _ => ?_⟩⟩
      refine sp_G_topStrength hr.2.2.1 (by simp only [List.length_cons]; omega) z4 ?_
      have sr := stg_rng f.1
      show (Int32.ofInt (stg f.1) < Int32.ofInt r → _) ∧ (¬ Int32.ofInt (stg f.1) < Int32.ofInt r → _)
      rw [i_lt (by omega) (by omega)]
      refine ⟨fun q => hgood (f :: l, pile, ps) h (by rw [stl, if_neg (by omega)]) ⟨fr.rf, hr, hw, rfl⟩, fun q => ?_⟩
      have hs : 0 ≤ stg f.1 := by omega
      obtain ⟨s1, s2, s3⟩ := stg_op hs
      have e1 := nd1_eq s3
      have e2 : nd (f :: l) = nd1 f + nd l := rfl
      refine sp_P_combine hr ⟨by simp only [List.length_cons]; omega, by simp only; omega, by simp only; omega, z4⟩ hB hPi s1 (by omega) (hpl f List.mem_cons_self) hf ?_ ?_
      · intro e h' c1 c2
        have el : stl r (f :: l) pile ps = .error e := by rw [stl, if_pos (by omega), c1]
        rw [pk_m1]
        cases m with
        | zero => omega
        | succ m =>
          unfold b_P_settle_8 b_P_settle_40
          refine ⟨fun _ => hbad e h' el c2, fun _ => ⟨fun _ => hbad e h' el c2, fun q9 => ?_⟩⟩
          rw [c2.2.1] at q9
          have := c2.2.2.2.1
          exact absurd ((nI_lit (d := 0) (by omega) (by decide)).mp q9) (by omega)
      · intro q' h' c1 c2
        rw [pk_m1]
        have el : ∀ x, stl r l q'.1 q'.2 = x → stl r (f :: l) pile ps = x := by intro x hx; rw [stl, if_pos (by omega), c1]; exact hx
        refine ih q'.1 q'.2 h' m (by omega) c2.2.1 (hI.step hs c1) (by rw [c2.2.2.2]; exact hf) c2.2.2.1 ?_ ?_
        · intro e h9 d1 d2; exact hbad e h9 (el _ d1) (d2.pre c2.1)
        · intro σ h9 d1 d2; exact hgood σ h9 (el _ d1) (d2.pre c2.1 c2.2.2.2)
theorem sp_P_settle {h : zH} {k : Nat} {r : Int} {σ : St} {post : zH → Prop} (hr0 : 0 ≤ r ∧ r ≤ 6) (hr : RP h k σ) (hI : Iv σ) (hf : h.1 29 10 = 0) (hw : h.1 29 9 = 2)
    (hbad : ∀ e h', stl r σ.1 σ.2.1 σ.2.2 = .error e → Bad h h' k e → post h') (hgood : ∀ σ' h', stl r σ.1 σ.2.1 σ.2.2 = .ok σ' → Good h h' k σ' → post h') : wp_P_settle (Int32.ofInt r) h post := by
  unfold wp_P_settle
  rw [hr.2.2.1.1]
  exact ⟨_, sp_settle hr0 σ.1 σ.2.1 σ.2.2 h (σ.1.length + 1) (by omega) hr hI hf hw hbad hgood⟩
theorem stl_Iv {r : Int} (hr : 0 ≤ r) : ∀ (ws : List Fr) (pile : List Nat) (ps : List Pt) (σ : St), Iv (ws, pile, ps) → stl r ws pile ps = .ok σ → Iv σ ∧ topS σ.1 < r
  | [], pile, ps, σ, hI, h => by
    simp only [stl, Except.ok.injEq] at h
    subst h
    exact ⟨hI, by show (-1 : Int) < r; omega⟩
  | f :: ws, pile, ps, σ, hI, h => by
    rw [stl] at h
    by_cases c : r ≤ stg f.1
    · rw [if_pos c] at h
      cases e : comb f.1 f.2.1 pile ps with
      | ok q => rw [e] at h; exact stl_Iv hr ws q.1 q.2 σ (hI.step (by omega) e) h
      | error x => rw [e] at h; cases h
    · rw [if_neg c] at h
      simp only [Except.ok.injEq] at h
      subst h
      exact ⟨hI, by show stg f.1 < r; omega⟩
