theorem Bad.pre {h h1 h' : zH} {k e : Nat} (a : fr (LPk k) h h1) (b : Bad h1 h' k e) : Bad h h' k e := ⟨a.tr b.1, b.2⟩
theorem Good.pre {h h1 h' : zH} {k : Nat} {σ : St} (a : fr (LPk k) h h1) (e : h1.1 29 10 = h.1 29 10) (b : Good h1 h' k σ) : Good h h' k σ := ⟨a.tr b.1, b.2.1, b.2.2.1, b.2.2.2.trans e⟩
theorem RP_pop {h : zH} {k x : Nat} {ws : List Fr} {l : List Nat} {ps : List Pt} (a : RP h k (ws, x :: l, ps)) : RP (zi h 29 4 (nI l.length)) k (ws, l, ps) := by
  obtain ⟨ek, hk, rG, rL, rT⟩ := a
  have kk := xTm_ge hk
  refine ⟨ek, hk, RG.same (h := h) (fun c hc => zi_ne (by omega)) rG, ⟨by simp [zi1], StkL.same (h := h) (fun i hi => by simp [zi1]) rL.2.2⟩, RT.same (h := h) (fun j hj => zi_ne (by omega)) rT⟩
theorem fr_29 {h : zH} {k j : Nat} {x : Int32} : fr (LPk k) h (zi h 29 j x) := fr.rf.zi (by simp [LPk])
def ar (op : Nat) : Nat := if op = 27 then 3 else if op = 20 ∨ op = 25 ∨ op = 26 then 1 else 2
set_option maxHeartbeats 2000000 in
theorem sp_P_combine {h : zH} {k : Nat} {f : Fr} {ws : List Fr} {pile : List Nat} {ps : List Pt} {post : zH → Prop} (hr : RP h k (f :: ws, pile, ps)) (hz : Szs (f :: ws, pile, ps)) (hB : Bas ps) (hPi : ∀ x ∈ pile, x < ps.length) (hop : f.1 = 27 ∨ (9 ≤ f.1 ∧ f.1 ≤ 26)) (har : ar f.1 ≤ pile.length) (hpl : f.2.1 < 100000) (hfl : h.1 29 10 = 0)
    (hbad : ∀ e h', comb f.1 f.2.1 pile ps = .error e → Bad h h' k e → post h') (hgood : ∀ q h', comb f.1 f.2.1 pile ps = .ok q → Good h h' k (ws, q) → post h') : wp_P_combine h post := by
  obtain ⟨ek, hk, rG, rL, rT⟩ := id hr
  obtain ⟨z1, z2, z3, z4⟩ := id hz
  simp only at *
  have kk := xTm_ge hk
  have hf : f.1 < 28 := by omega
  have hws : ws.length < 197 := by simp only [List.length_cons] at z1; omega
  unfold wp_P_combine b_P_combine_43
  refine sp_G_topCode rG z1 (sp_G_topPlace rG hws (sp_G_pop rG hws hf fun h47 f47 rG47 => ?_))
  have s47 : ∀ c, c ≠ 31 → h47.1 c = h.1 c ∧ h47.2.1 c = h.2.1 c ∧ h47.2.2 c = h.2.2 c := fun c hc => f47 c (by simpa using hc)
  have fL47 : fr (LPk k) h h47 := f47.up (by simp [LPk])
  have r47 : RP h47 k (ws, pile, ps) := ⟨by rw [(s47 29 (by decide)).2.2]; exact ek, hk, rG47, RL.same (h := h) (by rw [(s47 29 (by decide)).1]) (s47 35 (by decide)).1 rL, RT.same (h := h) (fun j hj => (s47 (k + j) (by omega)).1) rT⟩
  have hz2 : ∀ t : List Nat, t.length ≤ pile.length → Szs (ws, t, ps) := fun t ht => ⟨by simp only; omega, by simp only; omega, z3, fun g hg => z4 g (List.mem_cons_of_mem _ hg)⟩
  have e47 : h47.1 29 10 = h.1 29 10 := by rw [(s47 29 (by decide)).1]
  generalize hcc : cC f.1 = c
  have tc : topC (f :: ws) = c := hcc
  rw [tc]
  cases pile with
  | nil => exfalso; unfold ar at har; simp at har; split at har <;> (try split at har) <;> omega
  | cons r t =>
  have hr0 : r < ps.length := hPi r (by simp)
  have lt : t.length < 100 := by simp only [List.length_cons] at z2; omega
  refine sp_P_popLoose r47.2.2.2.1 lt ?_
  generalize g49 : zi h47 29 4 (nI t.length) = h49
  have r49 : RP h49 k (ws, t, ps) := by rw [← g49]; exact RP_pop r47
  have f49 : fr (LPk k) h h49 := by rw [← g49]; exact fL47.tr fr_29
  have e49 : h49.1 29 10 = h.1 29 10 := by rw [← g49]; simp [zi1, e47]
  obtain ⟨br1, br2, br3, br4, br5⟩ := hB r hr0
  have hc28 : c < 28 := by rw [← hcc]; exact cC_lt hf
  refine sp_R_takesOne hc28 ?_
  by_cases hu : f.1 = 20 ∨ f.1 = 25 ∨ f.1 = 26
  · have ec : c = f.1 := by rw [← hcc]; unfold cC; rw [if_neg (by omega)]
    have hb : (c == 26 || c == 20 || c == 25) = true := by rw [ec]; simp; omega
    rw [hb]
    refine ⟨fun q => absurd q (by decide), fun _ => ⟨fun _ => ?_, fun q => absurd ((nI_lit (d := 7) (by omega) (by decide)).mp q) (by omega)⟩⟩
    have e1 : comb f.1 f.2.1 (r :: t) ps = cmb c f.2.1 r r r t ps := by
      rw [ec]; unfold comb; rw [if_neg (by omega), if_pos hu]; exact comb1_eq hu br1 br3 br4
    refine sp_combine59 (z := r) (σ := (ws, t, ps)) r49 (hz2 t (by simp)) hB (by rw [ec]; unfold isOp; omega) hr0 hr0 hr0 (by rw [if_neg (by omega)]) (fun _ => rfl) (by rw [e49]; exact hfl) hpl ?_ ?_
    · intro e h' q1 q2; exact hbad e h' (by rw [e1]; exact q1) (q2.pre f49)
    · intro q h' q1 q2; exact hgood q h' (by rw [e1]; exact q1) (q2.pre f49 e49)
  · have hb : (c == 26 || c == 20 || c == 25) = false := by
      rw [← hcc]; unfold cC
      by_cases a : f.1 = 27
      · rw [if_pos a]; rfl
      · rw [if_neg a]; simp; omega
    rw [hb]
    refine ⟨fun _ => ?_, fun q => absurd rfl q⟩
    cases t with
    | nil => exfalso; unfold ar at har; rw [if_neg hu] at har; simp at har; split at har <;> omega
    | cons l t2 =>
    have hl0 : l < ps.length := hPi l (by simp)
    obtain ⟨bl1, bl2, bl3, bl4, bl5⟩ := hB l hl0
    have lt2 : t2.length < 100 := by simp only [List.length_cons] at lt; omega
    refine sp_P_popLoose r49.2.2.2.1 lt2 ?_
    generalize g53 : zi h49 29 4 (nI t2.length) = h53
    have r53 : RP h53 k (ws, t2, ps) := by rw [← g53]; exact RP_pop r49
    have f53 : fr (LPk k) h h53 := by rw [← g53]; exact f49.tr fr_29
    have e53 : h53.1 29 10 = h.1 29 10 := by rw [← g53]; simp [zi1, e49]
    by_cases h27 : f.1 = 27
    · have ec : c = 7 := by rw [← hcc]; unfold cC; rw [if_pos h27]
      subst ec
      refine ⟨fun q => absurd rfl q, fun _ => ?_⟩
      cases t2 with
      | nil => exfalso; unfold ar at har; rw [if_pos h27] at har; simp at har
      | cons x t3 =>
      have hx0 : x < ps.length := hPi x (by simp)
      obtain ⟨bx1, bx2, bx3, bx4, bx5⟩ := hB x hx0
      have lt3 : t3.length < 100 := by simp only [List.length_cons] at lt2; omega
      refine sp_P_popLoose r53.2.2.2.1 lt3 ?_
      generalize g55 : zi h53 29 4 (nI t3.length) = h55
      have r55 : RP h55 k (ws, t3, ps) := by rw [← g55]; exact RP_pop r53
      have f55 : fr (LPk k) h h55 := by rw [← g55]; exact f53.tr fr_29
      have e55 : h55.1 29 10 = h.1 29 10 := by rw [← g55]; simp [zi1, e53]
      have e1 : comb f.1 f.2.1 (r :: l :: x :: t3) ps = cmb 7 f.2.1 l r x t3 ps := by
        unfold comb; rw [if_pos h27]; exact comb3_eq bx1 bl1 br1 bl3 bl4 br3 br4
      refine sp_combine59 (z := x) (σ := (ws, t3, ps)) r55 (hz2 t3 (by simp only [List.length_cons]; omega)) hB (Or.inl rfl) hl0 hr0 hx0 (by rw [if_pos rfl]) (fun q => by omega) (by rw [e55]; exact hfl) hpl ?_ ?_
      · intro e h' q1 q2; exact hbad e h' (by rw [e1]; exact q1) (q2.pre f55)
      · intro q h' q1 q2; exact hgood q h' (by rw [e1]; exact q1) (q2.pre f55 e55)
    · have ec : c = f.1 := by rw [← hcc]; unfold cC; rw [if_neg h27]
      refine ⟨fun _ => ?_, fun q => absurd ((nI_lit (d := 7) (by omega) (by decide)).mp q) (by omega)⟩
      have e1 : comb f.1 f.2.1 (r :: l :: t2) ps = cmb c f.2.1 l r r t2 ps := by
        rw [ec]; unfold comb; rw [if_neg h27, if_neg hu]; exact comb2_eq (by omega) bl1 br1
      refine sp_combine59 (z := r) (σ := (ws, t2, ps)) r53 (hz2 t2 (by simp only [List.length_cons]; omega)) hB (by rw [ec]; unfold isOp; omega) hl0 hr0 hr0 (by rw [if_neg (by omega)]) (fun q => by omega) (by rw [e53]; exact hfl) hpl ?_ ?_
      · intro e h' q1 q2; exact hbad e h' (by rw [e1]; exact q1) (q2.pre f53)
      · intro q h' q1 q2; exact hgood q h' (by rw [e1]; exact q1) (q2.pre f53 e53)
