/-- frames that can stand -/
def FrOk (f : Fr) : Prop := (f.1 = 4 ∨ f.1 = 7 ∨ (9 ≤ f.1 ∧ f.1 ≤ 27)) ∧ f.2.2 ≤ 1 ∧ f.2.1 < 100000
def FrsOk (ws : List Fr) : Prop := ∀ f ∈ ws, FrOk f
theorem stl_suf {r : Int} : ∀ (ws : List Fr) (pile : List Nat) (ps : List Pt) (σ : St), stl r ws pile ps = .ok σ → ∀ f ∈ σ.1, f ∈ ws
  | [], pile, ps, σ, h => by
    simp only [stl, Except.ok.injEq] at h
    subst h
    exact fun f hf => hf
  | f :: ws, pile, ps, σ, h => by
    rw [stl] at h
    by_cases c : r ≤ stg f.1
    · rw [if_pos c] at h
      cases e : comb f.1 f.2.1 pile ps with
      | ok q => rw [e] at h; exact fun g hg => List.mem_cons_of_mem _ (stl_suf ws q.1 q.2 σ h g hg)
      | error x => rw [e] at h; cases h
    · rw [if_neg c] at h
      simp only [Except.ok.injEq] at h
      subst h
      exact fun g hg => hg
/-- the token is not the one due -/
theorem rb_bad {h h0 : zH} {k a : Nat} {b : Bool} {t : Tk} {σ : St} {post : zH → Prop} (hf0 : fr (LPk k) h0 h) (hr : RP h k σ) (hz : Szs σ) (ht : KT h t) (ha : a < 28) (hd : t.1 ≠ (if a = 0 then 1 else if b = true then 5 else if a = 7 then 8 else 6)) (hp : ∀ h', Bad h0 h' k (1 + 8 * t.2.1) → post h') : wp_P_readBehindTerm (nI a) (b01 b) h post := by
  unfold wp_P_readBehindTerm b_P_readBehindTerm_77
  obtain ⟨t1, t2, t3, t4⟩ := ht
  refine sp_P_tokenDue ha ?_
  generalize hdu : (if a = 0 then 1 else if b = true then 5 else if a = 7 then 8 else 6) = d at hd
  have hd9 : d < 9 := by rw [← hdu]; split <;> (try split) <;> (try split) <;> omega
  rw [t1, t2]
  refine ⟨fun q => absurd ((nI_eq (by omega) (by omega)).mp q) hd, fun _ => sp_P_blame (a := 1) ?_⟩
  exact hp _ (Bad.blame hf0 hr.2.2.1 hz.1 hz.2.2.2 (by omega))
theorem rb_end {h : zH} {b : Bool} {t : Tk} {post : zH → Prop} (ht : KT h t) (hd : t.1 = 1) (hp : post (zi h 29 9 3)) : wp_P_readBehindTerm (nI 0) (b01 b) h post := by
  unfold wp_P_readBehindTerm b_P_readBehindTerm_77
  obtain ⟨t1, t2, t3, t4⟩ := ht
  refine sp_P_tokenDue (by decide) ?_
  rw [if_pos rfl, t1, hd]
  exact ⟨fun _ => ⟨fun q => absurd rfl q, fun _ h8 e8 => by rw [e8]; exact hp⟩, fun q => absurd rfl q⟩
theorem rb_fun {h : zH} {a : Nat} {t : Tk} {post : zH → Prop} (ht : KT h t) (hd : t.1 = 5) (ha : a = 23 ∨ a = 24 ∨ a = 25) (hp : post h) : wp_P_readBehindTerm (nI a) (b01 true) h post := by
  unfold wp_P_readBehindTerm b_P_readBehindTerm_77
  obtain ⟨t1, t2, t3, t4⟩ := ht
  refine sp_P_tokenDue (by omega) ?_
  rw [if_neg (by omega), if_pos rfl, t1, hd]
  refine ⟨fun _ => ⟨fun _ => ⟨fun _ => ⟨fun _ => hp, fun q => ?_⟩, fun q => absurd rfl q⟩, fun q => absurd q (by decide)⟩, fun q => absurd rfl q⟩
  exact absurd ((nI_lit (d := 4) (by omega) (by decide)).mp q) (by omega)
theorem rb_open {h : zH} {t : Tk} {post : zH → Prop} (ht : KT h t) (hd : t.1 = 5) (hp : wp_G_pop h post) : wp_P_readBehindTerm (nI 4) (b01 true) h post := by
  unfold wp_P_readBehindTerm b_P_readBehindTerm_77
  obtain ⟨t1, t2, t3, t4⟩ := ht
  refine sp_P_tokenDue (by omega) ?_
  rw [if_neg (by omega), if_pos rfl, t1, hd]
  exact ⟨fun _ => ⟨fun _ => ⟨fun _ => ⟨fun q => absurd rfl q, fun _ => hp⟩, fun q => absurd rfl q⟩, fun q => absurd q (by decide)⟩, fun q => absurd rfl q⟩
theorem rb_next {h : zH} {a : Nat} {t : Tk} {post : zH → Prop} (ht : KT h t) (hd : t.1 = if a = 7 then 8 else 6) (ha : a = 7 ∨ a = 23 ∨ a = 24) (hp : wp_G_cameNextTerm h (fun h6 => post (zi h6 29 9 0))) : wp_P_readBehindTerm (nI a) (b01 false) h post := by
  unfold wp_P_readBehindTerm b_P_readBehindTerm_77
  obtain ⟨t1, t2, t3, t4⟩ := ht
  refine sp_P_tokenDue (by omega) ?_
  have key : wp_G_cameNextTerm h (fun (h6 : zH) => (∀ h7 : zH, h7 = zi h6 29 9 0 → post h7)) := by
    unfold wp_G_cameNextTerm b_G_cameNextTerm_32 at hp ⊢
    refine ⟨fun q h7 e7 => by rw [e7]; exact hp.1 q, fun q => ⟨fun q2 h7 e7 => by rw [e7]; exact (hp.2 q).1 q2, fun q2 => ⟨((hp.2 q).2 q2).1, ((hp.2 q).2 q2).2.1, fun h1 e1 h7 e7 => by rw [e7]; exact ((hp.2 q).2 q2).2.2 h1 e1⟩⟩⟩
  rw [if_neg (by omega), if_neg (by decide), t1, ← hd]
  have hd2 : ¬ nI t.1 = 1 ∧ ¬ nI t.1 = 5 := by
    rw [hd]
    by_cases c : a = 7
    · rw [if_pos c]; decide
    · rw [if_neg c]; decide
  exact ⟨fun _ => ⟨fun _ => ⟨fun q => absurd q hd2.2, fun _ => key⟩, fun q => absurd q hd2.1⟩, fun q => absurd rfl q⟩
