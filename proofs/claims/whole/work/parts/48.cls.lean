/-! THE CLASS READS AS THE MACHINE RUNS -/
def StB (h h' : zH) (k e : Nat) : Prop := fr (30 :: LPk k) h h' ∧ h'.1 29 10 = nI e ∧ h'.1 29 9 = 3 ∧ 0 < e ∧ e < 1000000
def StW (h h' : zH) (k m i : Nat) (σ : St) : Prop := fr (30 :: LPk k) h h' ∧ RP h' k σ ∧ h'.1 29 9 = nI m ∧ h'.1 29 10 = 0 ∧ h'.1 30 1 = nI i
theorem RP.f30 {h h' : zH} {k : Nat} {σ : St} (f : fr [30] h h') (a : RP h k σ) : RP h' k σ := by
  obtain ⟨ek, hk, rG, rL, rT⟩ := a
  have kk := xTm_ge hk
  have o : ∀ c, c ≠ 30 → h'.1 c = h.1 c ∧ h'.2.1 c = h.2.1 c ∧ h'.2.2 c = h.2.2 c := fun c hc => f c (by simpa using hc)
  exact ⟨by rw [(o 29 (by decide)).2.2]; exact ek, hk, RG.same (h := h) (fun c hc => (o c (by omega)).1) rG, RL.same (h := h) (by rw [(o 29 (by decide)).1]) (o 35 (by decide)).1 rL, RT.same (h := h) (fun j hj => (o (k + j) (by omega)).1) rT⟩
theorem fr_30L {h h1 h2 : zH} {k : Nat} (a : fr [30] h h1) (b : fr (LPk k) h1 h2) : fr (30 :: LPk k) h h2 := (a.up (by simp)).tr (b.up (fun c hc => List.mem_cons_of_mem _ hc))
set_option maxHeartbeats 1000000 in
theorem sp_step {h : zH} {k m i n : Nat} {sg : Nat → Nat} {vr : Vr} {σ : St} {K : zH → Prop} (hR : RS h sg n) (hV : RV h vr) (hv : VrOk vr) (hr : RP h k σ) (hW : Iw m σ) (hm : m < 3) (hf : h.1 29 10 = 0) (hw : h.1 29 9 = nI m) (hp : h.1 30 1 = nI i) (hi : i ≤ 600)
    (hbad : ∀ e h', stepM vr m (tok sg n i) σ = .error e → StB h h' k e → K h') (hgood : ∀ q h', stepM vr m (tok sg n i) σ = .ok q → StW h h' k q.1 (tok sg n i).2.2.2 q.2 → K h') :
    wp_K_advance h (fun (h2 : zH) => ((¬ (h2.1 29 9) = 0 → ((¬ (h2.1 29 9) = 1 → wp_P_goesOn h2 (fun (r3 : Int32) (h4 : zH) => ((¬ r3 = 0 → K h4) ∧ (r3 = 0 → wp_P_endTerm h4 (fun (h6 : zH) => K h6))))) ∧ ((h2.1 29 9) = 1 → wp_P_readBracket h2 (fun (h8 : zH) => K h8)))) ∧ ((h2.1 29 9) = 0 → wp_P_readOperand h2 (fun (h10 : zH) => K h10)))) := by
  refine sp_K_advance hi hR hp fun h2 a => ?_
  generalize tok sg n i = t at hbad hgood a
  obtain ⟨f2, kt, kn, tkk, e1⟩ := a
  have o : ∀ c, c ≠ 30 → h2.1 c = h.1 c := fun c hc => (f2 c (by simpa using hc)).1
  have r2 := hr.f30 f2
  have hk := hr.2.1
  have V2 : RV h2 vr := by unfold RV; rw [o 1 (by decide), o 2 (by decide), o 3 (by decide)]; exact hV
  have w2 : h2.1 29 9 = nI m := by rw [o 29 (by decide)]; exact hw
  have g2 : h2.1 29 10 = 0 := by rw [o 29 (by decide)]; exact hf
  have B : ∀ e h', stepM vr m t σ = .error e → Bad h2 h' k e → K h' := fun e h' a b => hbad e h' a ⟨fr_30L f2 b.1, b.2.1, b.2.2.1, b.2.2.2.1.1, b.2.2.2.1.2⟩
  have Gd : ∀ q h', stepM vr m t σ = .ok q → Went h2 h' k q.1 q.2 → K h' := fun q h' a b => hgood q h' a ⟨fr_30L f2 b.1, b.2.1, b.2.2.1, b.2.2.2, by rw [(b.1 30 (LPk_30 hk)).1]; exact e1⟩
  rw [w2]
  rcases (show m = 0 ∨ m = 1 ∨ m = 2 by omega) with rfl | rfl | rfl
  · refine ⟨fun q => absurd rfl q, fun _ => sp_P_readOperand r2 hW kt kn tkk V2 hv g2 (fun e h' a b => B e h' a b) (fun q h' a b => Gd q h' a b)⟩
  · refine ⟨fun _ => ⟨fun q => absurd rfl q, fun _ => sp_P_readBracket r2 hW.szs kt g2 ?_ ?_⟩, fun q => absurd q (by decide)⟩
    · intro z h' b
      exact B _ h' (by unfold stepM; rw [if_neg (by decide), if_pos rfl, if_neg z]) b
    · intro z h' b
      exact Gd (0, σ) h' (by unfold stepM; rw [if_neg (by decide), if_pos rfl, if_pos z]) b
  · refine ⟨fun _ => ⟨fun _ => sp_P_goesOn r2 hW kt g2 w2 ?_ ?_ ?_, fun q => absurd q (by decide)⟩, fun q => absurd q (by decide)⟩
    · intro e h' a b
      exact ⟨fun _ => B e h' a b, fun q => absurd q (by decide)⟩
    · intro q h' a b
      exact ⟨fun _ => Gd q h' a b, fun z => absurd z (by decide)⟩
    · intro σ1 h' a W1 gd
      refine ⟨fun q => absurd rfl q, fun _ => ?_⟩
      refine sp_P_endTerm gd.2.1 W1.iv W1.1.1 (kt.same hk gd.1) (gd.2.2.2.trans g2) gd.2.2.1 ?_ ?_
      · intro e h9 b c; exact B e h9 (a.trans b) (c.pre gd.1)
      · intro q h9 b c; exact Gd q h9 (a.trans b) ⟨gd.1.tr c.1, c.2⟩
theorem sgn_in {sg : Nat → Nat} {n i : Nat} (h : sgn sg n i ≠ 0) : i < n := by
  unfold sgn at h
  by_cases c : i < n
  · exact c
  · rw [if_neg c] at h; exact absurd rfl h
theorem tok_pos {sg : Nat → Nat} {n i0 : Nat} (hi : i0 ≤ n) (h0 : (tok sg n i0).1 ≠ 0) (h1 : (tok sg n i0).1 ≠ 1) : i0 < (tok sg n i0).2.2.2 ∧ (tok sg n i0).2.2.2 ≤ n := by
  have sr := skp_rng (sg := sg) (n := n) n i0
  revert h0 h1
  unfold tok
  dsimp only
  generalize skp sg n n i0 = i at sr
  by_cases c1 : n ≤ i
  · rw [if_pos c1]; intro _ q; exact absurd rfl q
  rw [if_neg c1]
  by_cases c2 : isDg (sgn sg n i) = true
  · rw [if_pos c2]
    have dd := dg_in c2
    have : i < dgE sg n n i ∧ dgE sg n n i ≤ n := by
      cases n with
      | zero => omega
      | succ n =>
        rw [dgE, if_pos dd]
        have := dgE_ge (sg := sg) (n := n + 1) n (i + 1)
        omega
    by_cases c3 : dgE sg n n i - i ≤ 10 ∧ dgV sg i (dgE sg n n i - i) ≤ 2000000000
    · rw [if_pos c3]; intro _ _; simp only; omega
    · rw [if_neg c3]; intro q; exact absurd rfl q
  rw [if_neg c2]
  by_cases c3 : sgn sg n i = 118
  · rw [if_pos c3]
    by_cases c4 : isDg (sgn sg n (i + 1)) = true
    · rw [if_pos c4]
      have := (dg_in c4).1
      by_cases c5 : isDg (sgn sg n (i + 2)) = true
      · rw [if_pos c5]
        have := (dg_in c5).1
        intro _ _; simp only; omega
      · rw [if_neg c5]; intro _ _; simp only; omega
    · rw [if_neg c4]; intro q; exact absurd rfl q
  rw [if_neg c3]
  by_cases c4 : sgn sg n i = 109 ∨ sgn sg n i = 97
  · rw [if_pos c4]
    intro q _
    have : i + 2 < n := by
      refine sgn_in (sg := sg) (fun e => q ?_)
      show wrd _ _ _ = 0
      rw [e]; unfold wrd
      rw [if_neg (by omega), if_neg (by omega), if_neg (by omega)]
    simp only; omega
  rw [if_neg c4]
  by_cases c5 : dbl (sgn sg n i) (sgn sg n (i + 1)) ≠ 0
  · rw [if_pos c5]
    intro _ _
    have : i + 1 < n := by
      refine sgn_in (sg := sg) (fun e => c5 ?_)
      rw [e]; unfold dbl
      rw [if_neg (by omega), if_neg (by omega), if_neg (by omega)]
    simp only; omega
  · rw [if_neg c5]; intro _ _; simp only; omega
theorem endT_end {t : Tk} {σ : St} {q : Nat × St} (ht : t.1 = 0 ∨ t.1 = 1) (h : endT t σ = .ok q) : q.1 = 3 := by
  unfold endT at h
  cases e : stl 0 σ.1 σ.2.1 σ.2.2 with
  | error x => rw [e] at h; cases h
  | ok s =>
    rw [e] at h
    obtain ⟨ws, pile, ps⟩ := s
    cases ws with
    | nil =>
      simp only at h
      by_cases c : t.1 = 1
      · rw [if_pos c] at h; simp only [Except.ok.injEq] at h; subst h; rfl
      · rw [if_neg c] at h; cases h
    | cons f l =>
      obtain ⟨op, pl, cn⟩ := f
      simp only at h
      by_cases hfn : op = 25 ∨ ((op = 23 ∨ op = 24) ∧ cn = 1)
      · rw [if_pos hfn] at h
        cases e2 : comb op pl pile ps with
        | error x => rw [e2] at h; cases h
        | ok r => rw [e2] at h; simp only at h; rw [if_neg (by omega)] at h; cases h
      · rw [if_neg hfn] at h
        by_cases h4 : op = 4
        · rw [if_pos h4, if_neg (by omega)] at h; cases h
        · rw [if_neg h4] at h
          by_cases h7 : op = 7
          · rw [if_pos h7, if_neg (by omega)] at h; cases h
          · rw [if_neg h7, if_neg (by omega)] at h; cases h
theorem stepM_end {vr : Vr} {m : Nat} {t : Tk} {σ : St} {q : Nat × St} (ht : t.1 = 0 ∨ t.1 = 1) (h : stepM vr m t σ = .ok q) : q.1 = 3 := by
  unfold stepM at h
  by_cases c0 : m = 0
  · rw [if_pos c0] at h
    unfold stepB at h
    rw [if_neg (by omega), if_neg (by omega), if_neg (by omega), if_neg (by omega), if_neg (by omega)] at h
    cases h
  rw [if_neg c0] at h
  by_cases c1 : m = 1
  · rw [if_pos c1, if_neg (by omega)] at h; cases h
  · rw [if_neg c1] at h
    unfold stepO at h
    have nb : ¬ isBin t.1 = true := by rcases ht with e | e <;> rw [e] <;> decide
    rw [if_neg nb, if_neg (by omega)] at h
    exact endT_end ht h
/-- behind all reading -/
def RdB (h h' : zH) (k e : Nat) : Prop := fr (30 :: LPk k) h h' ∧ 0 < e ∧ e < 1000000
def RdG (h h' : zH) (k : Nat) (ps : List Pt) : Prop := fr (30 :: LPk k) h h' ∧ RT h' k ps ∧ Bas ps ∧ 0 < ps.length ∧ ps.length ≤ 100
theorem tok_ok {h : zH} {sg : Nat → Nat} {n i0 : Nat} (hR : RS h sg n) (hi : i0 ≤ 600) : TkOk (tok sg n i0) := by
  have h4 := hR.2.1
  have sr := skp_rng (sg := sg) (n := n) n i0
  unfold tok
  dsimp only
  generalize skp sg n n i0 = i at sr
  have s1 := sgn_lt (i := i + 1) hR
  have s2 := sgn_lt (i := i + 2) hR
  unfold TkOk
  by_cases c1 : n ≤ i
  · rw [if_pos c1]; simp only; omega
  rw [if_neg c1]
  by_cases c2 : isDg (sgn sg n i) = true
  · rw [if_pos c2]
    by_cases c3 : dgE sg n n i - i ≤ 10 ∧ dgV sg i (dgE sg n n i - i) ≤ 2000000000
    · rw [if_pos c3]; simp only; omega
    · rw [if_neg c3]; simp only; omega
  rw [if_neg c2]
  by_cases c3 : sgn sg n i = 118
  · rw [if_pos c3]
    by_cases c4 : isDg (sgn sg n (i + 1)) = true
    · rw [if_pos c4]
      by_cases c5 : isDg (sgn sg n (i + 2)) = true
      · rw [if_pos c5]; simp only; omega
      · rw [if_neg c5]; simp only; omega
    · rw [if_neg c4]; simp only; omega
  rw [if_neg c3]
  by_cases c4 : sgn sg n i = 109 ∨ sgn sg n i = 97
  · rw [if_pos c4]
    have := wrd_lt (sgn sg n i) (sgn sg n (i + 1)) (sgn sg n (i + 2))
    simp only; omega
  rw [if_neg c4]
  have d := dbl_lt (sgn sg n i) (sgn sg n (i + 1))
  have s := sng_lt (sgn sg n i)
  by_cases c5 : dbl (sgn sg n i) (sgn sg n (i + 1)) ≠ 0
  · rw [if_pos c5]; simp only; omega
  · rw [if_neg c5]; simp only; omega
set_option maxHeartbeats 1000000 in
theorem sp_read {k n l1 : Nat} {sg : Nat → Nat} {vr : Vr} {post : Int32 → zH → Prop} (hv : VrOk vr) : ∀ (fu m i s : Nat) (σ : St) (h : zH), n - i < fu → i ≤ n → s ≤ i → RS h sg n → RV h vr → RP h k σ → Iw m σ → m < 3 → h.1 29 10 = 0 → h.1 29 9 = nI m → h.1 30 1 = nI i →
    (∀ e h', runT sg n vr fu m i σ = .error e → RdB h h' k e → post (nI e) h') → (∀ ps h', runT sg n vr fu m i σ = .ok ps → RdG h h' k ps → post 0 h') → b_P_read_7 l1 post (fu + 1) (nI s) h := by
  intro fu
  induction fu with
  | zero => intro m i s σ h hk; omega
  | succ fu ih =>
    intro m i s σ h hk hin hsi hR hV hr hW hm hf hw hp hbad hgood
    have h4 := hR.2.1
    have n400 : ∀ x : Nat, x ≤ 400 → ¬ (400 : Int32) < nI x := by
      intro x hx q
      have := (lit_lt_nI (d := 400) (by omega) (by decide)).mp q
      omega
    have n3 : ¬ nI m = 3 := fun q => by have := (nI_lit (d := 3) (by omega) (by decide)).mp q; omega
    unfold b_P_read_7
    rw [hw]
    refine ⟨fun q => absurd q (n400 s (by omega)), fun _ => ⟨fun q => absurd q n3, fun _ => ?_⟩⟩
    have K := sp_step (K := fun h9 => b_P_read_69 l1 post (b_P_read_7 l1 post (fu + 1)) (nI s) h9) hR hV hv hr hW hm hf hw hp (by omega) ?_ ?_
    · exact K
    · intro e h' a b
      have el : runT sg n vr (fu + 1) m i σ = .error e := by rw [runT, a]
      have fin : post (h'.1 29 10) h' := by rw [b.2.1]; exact hbad e h' el ⟨b.1, b.2.2.2⟩
      show b_P_read_7 l1 post (fu + 1) (nI s + 1) h'
      unfold b_P_read_7
      exact ⟨fun _ => fin, fun _ => ⟨fun _ => fin, fun q => absurd b.2.2.1 q⟩⟩
    · intro q h' a b
      obtain ⟨b1, b2, b3, b4, b5⟩ := b
      show b_P_read_7 l1 post (fu + 1) (nI s + 1) h'
      rcases stepM_inv hv (tok_ok hR (by omega)) hm hW a with ⟨c1, c2, c3⟩ | ⟨c1, c2⟩
      · have el : runT sg n vr (fu + 1) m i σ = .ok q.2.2.2 := by rw [runT, a]; simp only; rw [if_pos c1]
        have hl : 0 < q.2.2.2.length := by
          have := c3.2.2.2.1
          have := c3.2.2.2.2.1
          rw [if_pos rfl] at *
          omega
        have fin : post (h'.1 29 10) h' := by rw [b4]; exact hgood _ h' el ⟨b1, b2.2.2.2.2, c3.2.1, hl, c3.2.2.2.2.2⟩
        unfold b_P_read_7
        refine ⟨fun _ => fin, fun _ => ⟨fun _ => fin, fun z => absurd ?_ z⟩⟩
        rw [b3, c1]; rfl
      · have nt0 : (tok sg n i).1 ≠ 0 := fun e => by have := stepM_end (Or.inl e) a; omega
        have nt1 : (tok sg n i).1 ≠ 1 := fun e => by have := stepM_end (Or.inr e) a; omega
        have tp := tok_pos hin nt0 nt1
        have er : runT sg n vr (fu + 1) m i σ = runT sg n vr fu q.1 (tok sg n i).2.2.2 q.2 := by
          rw [runT, a]; simp only; rw [if_neg (by omega)]
        have kk := xTm_ge hr.2.1
        have n1 : ∀ c, c < 7 → c ∉ 30 :: LPk k := by
          intro c hc
          unfold LPk
          simp only [List.mem_cons, not_or]
          exact ⟨by omega, by omega, by omega, by omega, by omega, by omega, by omega, by omega, by omega, by omega, by rw [LT_mem]; omega⟩
        have o : ∀ c, c < 7 → h'.1 c = h.1 c := fun c hc => (b1 c (n1 c hc)).1
        have V2 : RV h' vr := by unfold RV; rw [o 1 (by decide), o 2 (by decide), o 3 (by decide)]; exact hV
        rw [nI_1]
        refine ih q.1 (tok sg n i).2.2.2 (s + 1) q.2 h' (by omega) tp.2 (by omega) (hR.same (o 5 (by decide)) (o 6 (by decide))) V2 b2 c2 c1 b4 b3 b5 ?_ ?_
        · intro e h9 x y; exact hbad e h9 (er.trans x) ⟨b1.tr y.1, y.2⟩
        · intro ps h9 x y; exact hgood ps h9 (er.trans x) ⟨b1.tr y.1, y.2⟩
def St0 : St := ([], [], [])
theorem Iw0 : Iw 0 St0 := by
  refine ⟨⟨fun f hf => absurd hf List.not_mem_nil, trivial, by decide⟩, fun i hi => absurd hi (by simp [St0]), fun x hx => absurd hx List.not_mem_nil, rfl, by simp [St0], by simp [St0]⟩
set_option maxHeartbeats 1000000 in
theorem sp_P_read {h : zH} {k n : Nat} {sg : Nat → Nat} {vr : Vr} {post : Int32 → zH → Prop} (hk : xTm k) (hv : VrOk vr) (hR : RS h sg n) (hV : RV h vr)
    (hbad : ∀ e h', runT sg n vr (n + 1) 0 0 St0 = .error e → RdB h h' k e → post (nI e) h') (hgood : ∀ ps h', runT sg n vr (n + 1) 0 0 St0 = .ok ps → RdG h h' k ps → post 0 h') : wp_P_read k h post := by
  unfold wp_P_read wp_P_restart wp_K_restart
  refine ⟨hk, hk, fun h1 e1 => ?_⟩
  have r1 : h1.2.2 29 8 = k := by rw [e1]; simp [zr3]
  rw [r1]
  refine ⟨hk, sp_T_clear hk fun h4 f4 r4 h5 e5 => sp_G_clear fun h8 f8 r8 h9 e9 h10 e10 h11 e11 => ?_⟩
  have kk := xTm_ge hk
  have n29 : (29 : Nat) ∉ LT k := by rw [LT_mem]; omega
  have fA : fr (30 :: LPk k) h h11 := by
    rw [e11, e10, e9]
    have g1 : fr (30 :: LPk k) h h1 := by rw [e1]; exact fr.rf.zr (by simp [LPk])
    have g4 : fr (30 :: LPk k) h h4 := g1.tr (f4.up (fun c hc => List.mem_cons_of_mem _ (by unfold LPk; simp only [List.mem_cons]; exact Or.inr (Or.inr (Or.inr (Or.inr (Or.inr (Or.inr (Or.inr (Or.inr (Or.inr hc))))))))))) 
    have g5 : fr (30 :: LPk k) h h5 := by rw [e5]; exact g4.zi (by simp)
    have g8 : fr (30 :: LPk k) h h8 := g5.tr (f8.up (by simp [LPk]))
    exact ((g8.zi (by simp [LPk])).zi (by simp [LPk])).zi (by simp [LPk])
  have n1 : ∀ c, c < 7 → c ∉ 30 :: LPk k := by
    intro c hc
    unfold LPk
    simp only [List.mem_cons, not_or]
    exact ⟨by omega, by omega, by omega, by omega, by omega, by omega, by omega, by omega, by omega, by omega, by rw [LT_mem]; omega⟩
  have o : ∀ c, c < 7 → h11.1 c = h.1 c := fun c hc => (fA c (n1 c hc)).1
  have V2 : RV h11 vr := by unfold RV; rw [o 1 (by decide), o 2 (by decide), o 3 (by decide)]; exact hV
  have k8 : h11.2.2 29 8 = k := by
    rw [e11, e10, e9]
    show h8.2.2 29 8 = k
    rw [(f8 29 (by decide)).2.2, e5]
    show h4.2.2 29 8 = k
    rw [(f4 29 n29).2.2]; exact r1
  have rp : RP h11 k St0 := by
    refine ⟨k8, hk, RG.same (h := h8) (fun c hc => ?_) r8, ⟨by rw [e11, e10, e9]; simp [zi1, St0, nI], trivial⟩, ?_⟩
    · rw [e11, e10, e9, zi_ne (by omega), zi_ne (by omega), zi_ne (by omega)]
    · refine RT.same (h := h4) (fun j hj => ?_) r4
      rw [e11, e10, e9, zi_ne (by omega), zi_ne (by omega), zi_ne (by omega), (f8 (k + j) (by simp; omega)).1, e5, zi_ne (by omega)]
  refine ⟨n + 1 + 1, sp_read hv (n + 1) 0 0 0 St0 h11 (by omega) (by omega) (by omega) (hR.same (o 5 (by decide)) (o 6 (by decide))) V2 rp Iw0 (by decide) (by rw [e11]; simp [zi1]) (by rw [e11, e10]; simp [zi1, nI]) ?_ ?_ ?_⟩
  · rw [e11, e10, e9, zi_ne (by decide), zi_ne (by decide), zi_ne (by decide), (f8 30 (by decide)).1, e5]; simp [zi1, nI]
  · intro e h' a b; exact hbad e h' a ⟨fA.tr b.1, b.2⟩
  · intro ps h' a b; exact hgood ps h' a ⟨fA.tr b.1, b.2⟩
