theorem sp_G_came {h : zH} {f : Fr} {l : List Fr} {f2 : Fr} {post : zH → Prop} (hr : RG h (f :: l)) (hl : l.length < 197) (h1 : cC f2.1 = cC f.1) (h2 : f2.2.1 = f.2.1) (h3 : cW f = cW f2 + 1) (h4 : nsts f2.1 = nsts f.1) (hp : ∀ h', fr [34] h h' → RG h' (f2 :: l) → post h') : wp_G_cameNextTerm h post := by
  unfold wp_G_cameNextTerm b_G_cameNextTerm_32
  obtain ⟨e1, e2, e3, e4, e5, e6⟩ := hr
  simp only [List.length_cons] at e1
  have hlt : l.length < 2147483648 := by omega
  rw [e1]
  refine ⟨fun q => absurd q (nI_nle (by omega) (by omega)), fun _ => ⟨fun q => ?_, fun _ => ?_⟩⟩
  · have := (lit_lt_nI (d := 197) (by omega) (by decide)).mp q
    omega
  · rw [nI_pred, nI_clamp' hlt, e5, h3]
    refine ⟨vp_in_nI hl (by decide), vp_in_nI hl (by decide), fun h1' g1 => ?_⟩
    rw [nI_pred] at g1
    refine hp h1' (by rw [g1]; exact fr.rf.zi (by simp)) ⟨?_, ?_, ?_, ?_, ?_, ?_⟩
    · rw [g1]; simp [zi1, e1]
    · rw [g1]; simp only [zi1]; rw [if_neg (by omega), e2]; simp only [nst, h4]
    · rw [g1]; simp [zi1, e3, h1]
    · rw [g1]; simp [zi1, e4, h2]
    · rw [g1]; simp [zi1]
    · refine StkG.same (h := h) (fun i hi => ?_) e6
      have hne : ¬ i = l.length := by omega
      rw [g1]; simp [zi1, hne]
theorem sp_G_clear {h : zH} {post : zH → Prop} (hp : ∀ h', fr [31] h h' → RG h' [] → post h') : wp_G_clear h post := by
  unfold wp_G_clear
  intro h1 g1 h2 g2
  refine hp h2 (by rw [g2, g1]; exact (fr.rf.zi (by simp)).zi (by simp)) ⟨?_, ?_, trivial⟩
  · rw [g2, g1]; simp [zi1, nI]
  · rw [g2, g1]; simp [zi1, nI, nst]
/-- the token at hand -/
def KT (h : zH) (t : Tk) : Prop := h.1 30 2 = nI t.1 ∧ h.1 30 3 = nI t.2.1 ∧ t.1 < 26 ∧ t.2.1 < 100000
theorem LPk_30 {k : Nat} (hk : xTm k) : (30 : Nat) ∉ LPk k := by
  have := xTm_ge hk
  unfold LPk
  simp only [List.mem_cons, not_or]
  exact ⟨by decide, by decide, by decide, by decide, by decide, by decide, by decide, by decide, by decide, by rw [LT_mem]; omega⟩
theorem KT.same {h h' : zH} {k : Nat} {t : Tk} (hk : xTm k) (f : fr (LPk k) h h') (a : KT h t) : KT h' t := by
  have e := (f 30 (LPk_30 hk)).1
  unfold KT; rw [e]; exact a
/-- behind a step that leaves the machine in mode m -/
def Went (h h' : zH) (k m : Nat) (σ : St) : Prop := fr (LPk k) h h' ∧ RP h' k σ ∧ h'.1 29 9 = nI m ∧ h'.1 29 10 = 0
theorem RP_push {h h' : zH} {k : Nat} {ws ws2 : List Fr} {pile : List Nat} {ps : List Pt} (f : fr [31, 32, 33, 34] h h') (a : RP h k (ws, pile, ps)) (g : RG h' ws2) : RP h' k (ws2, pile, ps) := by
  obtain ⟨ek, hk, rG, rL, rT⟩ := a
  have kk := xTm_ge hk
  have o : ∀ c, c ∉ [31, 32, 33, 34] → h'.1 c = h.1 c ∧ h'.2.1 c = h.2.1 c ∧ h'.2.2 c = h.2.2 c := f
  refine ⟨by rw [(o 29 (by decide)).2.2]; exact ek, hk, g, RL.same (h := h) (by rw [(o 29 (by decide)).1]) (o 35 (by decide)).1 rL, RT.same (h := h) (fun j hj => (o (k + j) (by simp; omega)).1) rT⟩
theorem RP_29 {h : zH} {k j : Nat} {x : Int32} {σ : St} (hj : j ≠ 4) (a : RP h k σ) : RP (zi h 29 j x) k σ := by
  obtain ⟨ek, hk, rG, rL, rT⟩ := a
  have kk := xTm_ge hk
  refine ⟨ek, hk, RG.same (h := h) (fun c hc => zi_ne (by omega)) rG, RL.same (h := h) (by simp [zi1, hj.symm]) (zi_ne (by decide)) rL, RT.same (h := h) (fun i hi => zi_ne (by omega)) rT⟩
theorem fr_31 {h h' : zH} {k : Nat} (f : fr [31, 32, 33, 34] h h') : fr (LPk k) h h' := f.up (by simp [LPk])
theorem sp_P_nest {h : zH} {k op m : Nat} {t : Tk} {σ : St} {post : zH → Prop} (hr : RP h k σ) (hz : Szs σ) (hf : h.1 29 10 = 0) (ht : KT h t) (hop : op < 27) (hm : m < 4) (hl : nst σ.1 < 32 → σ.1.length < 197) (hn : nst σ.1 < 1000)
    (hbad : ∀ e h', nestS op m t.2.1 σ = .error e → Bad h h' k e → post h') (hgood : ∀ q h', nestS op m t.2.1 σ = .ok q → Went h h' k q.1 q.2 → post h') : wp_P_nest (nI op) (nI m) h post := by
  unfold wp_P_nest b_P_nest_47
  obtain ⟨ws, pile, ps⟩ := σ
  obtain ⟨t1, t2, t3, t4⟩ := ht
  obtain ⟨z1, z2, z3, z4⟩ := hz
  simp only at *
  rw [hr.2.2.1.2.1, t2]
  refine ⟨fun q => ?_, fun q => ?_⟩
  · have q' : nst ws < 32 := (nI_lt_lit (c := nst ws) (d := 32) (by omega) (by decide)).mp q
    refine sp_G_push hr.2.2.1 (hl q') hn hop (fun h2 f2 g2 h3 e3 => ?_)
    refine hgood (m, (op, t.2.1, 0) :: ws, pile, ps) h3 (by unfold nestS; rw [if_neg (by simp only; omega)]) ⟨?_, ?_, ?_, ?_⟩
    · rw [e3]; exact (fr_31 f2).zi (by simp [LPk])
    · rw [e3]; exact RP_29 (by decide) (RP_push f2 hr g2)
    · rw [e3]; simp [zi1]
    · rw [e3]; simp only [zi1]; rw [if_neg (by decide), (f2 29 (by decide)).1]; exact hf
  · have q' : ¬ nst ws < 32 := fun z => q ((nI_lt_lit (c := nst ws) (d := 32) (by omega) (by decide)).mpr z)
    refine sp_P_blame (a := 5) ?_
    exact hbad (5 + 8 * t.2.1) _ (by unfold nestS; rw [if_pos (by simp only; omega)]) (Bad.blame fr.rf hr.2.2.1 z1 z4 (by omega))
/-- Parser.readBehindTerm, by what stands on top -/
theorem sp_P_tokenDue {a : Nat} {b : Bool} {h : zH} {post : Int32 → zH → Prop} (ha : a < 28) (hp : post (nI (if a = 0 then 1 else if b = true then 5 else if a = 7 then 8 else 6)) h) : wp_P_tokenDue (nI a) (b01 b) h post := by
  unfold wp_P_tokenDue b_P_tokenDue_25
  have hl : a < 2147483648 := by omega
  refine ⟨fun q => ?_, fun q => ?_⟩
  · have q' : ¬ a = 0 := fun e => q ((nI_lit (d := 0) hl (by decide)).mpr e)
    rw [if_neg q'] at hp
    cases b with
    | true => exact ⟨fun z => absurd z (by decide), fun _ => hp⟩
    | false =>
      rw [if_neg (by decide)] at hp
      refine ⟨fun _ => ⟨fun z => ?_, fun z => ?_⟩, fun z => absurd rfl z⟩
      · have z' : ¬ a = 7 := fun e => z ((nI_lit (d := 7) hl (by decide)).mpr e)
        rw [if_neg z'] at hp; exact hp
      · have z' : a = 7 := (nI_lit (d := 7) hl (by decide)).mp z
        rw [if_pos z'] at hp; exact hp
  · have q' : a = 0 := (nI_lit (d := 0) hl (by decide)).mp q
    rw [if_pos q'] at hp; exact hp
theorem sp_P_leastSettledBy {s : Int} {h : zH} {post : Int32 → zH → Prop} (hs : 0 ≤ s ∧ s ≤ 5) (hp : post (Int32.ofInt (if s = 0 ∨ s = 3 then s + 1 else s)) h) : wp_P_leastSettledBy (Int32.ofInt s) h post := by
  unfold wp_P_leastSettledBy b_P_leastSettledBy_9 b_P_leastSettledBy_14 b_P_leastSettledBy_26
  rcases (show s = 0 ∨ s = 1 ∨ s = 2 ∨ s = 3 ∨ s = 4 ∨ s = 5 by omega) with rfl | rfl | rfl | rfl | rfl | rfl <;> (simp at hp ⊢; exact hp)
