/-! THE INVARIANT OF THE MACHINE, and the end of a term -/
def okw : List Fr → Prop
  | [] => True
  | f :: l => okw l ∧ (isBin f.1 = true → topS l < stg f.1) ∧ (f.1 = 7 ∨ f.1 = 27 → topS l < 1)
def bw : List Fr → Int
  | [] => 0
  | f :: _ => if isBin f.1 = true then stg f.1 else 0
theorem isBin_stg {op : Nat} (h : isBin op = true) : 1 ≤ stg op ∧ stg op ≤ 5 ∧ 9 ≤ op ∧ op ≤ 22 ∧ nsts op = false := by
  have hb : op < 28 := by unfold isBin at h; simp at h; omega
  revert h
  refine c28 (P := fun op => isBin op = true → 1 ≤ stg op ∧ stg op ≤ 5 ∧ 9 ≤ op ∧ op ≤ 22 ∧ nsts op = false) hb ?_
  repeat' apply And.intro
  all_goals decide
theorem bin_or {f : Fr} (h : FrOk f) : (isBin f.1 = true ∧ nsts f.1 = false) ∨ (isBin f.1 = false ∧ nsts f.1 = true) := by
  obtain ⟨h1, _, _⟩ := h
  have hb : f.1 < 28 := by omega
  revert h1
  generalize f.1 = op at hb
  refine c28 (P := fun op => (op = 4 ∨ op = 7 ∨ (9 ≤ op ∧ op ≤ 27)) → (isBin op = true ∧ nsts op = false) ∨ (isBin op = false ∧ nsts op = true)) hb ?_
  repeat' apply And.intro
  all_goals decide
theorem bw_rng {ws : List Fr} : 0 ≤ bw ws ∧ bw ws ≤ 5 := by
  cases ws with
  | nil => show (0 : Int) ≤ 0 ∧ (0 : Int) ≤ 5; omega
  | cons f l =>
    show 0 ≤ (if isBin f.1 = true then stg f.1 else 0) ∧ (if isBin f.1 = true then stg f.1 else 0) ≤ 5
    by_cases c : isBin f.1 = true
    · rw [if_pos c]; have := isBin_stg c; omega
    · rw [if_neg c]; omega
theorem bw_top {ws : List Fr} {s : Int} (hs : 1 ≤ s) (h : topS ws < s) : bw ws < s := by
  cases ws with
  | nil => show (0 : Int) < s; omega
  | cons f l =>
    show (if isBin f.1 = true then stg f.1 else 0) < s
    have h' : stg f.1 < s := h
    split <;> omega
theorem okw_len : ∀ {ws : List Fr}, FrsOk ws → okw ws → (ws.length : Int) ≤ 6 * (nst ws : Int) + bw ws
  | [], _, _ => by show (0 : Int) ≤ 6 * 0 + 0; omega
  | f :: l, hF, ho => by
    have ih := okw_len (fun g hg => hF g (List.mem_cons_of_mem _ hg)) ho.1
    have br := @bw_rng l
    simp only [List.length_cons]
    rcases bin_or (hF f List.mem_cons_self) with ⟨b1, b2⟩ | ⟨b1, b2⟩
    · have e1 : nst (f :: l) = nst l := by show (if nsts f.1 = true then 1 else 0) + nst l = nst l; rw [b2]; simp
      have e2 : bw (f :: l) = stg f.1 := by show (if isBin f.1 = true then stg f.1 else 0) = stg f.1; rw [if_pos b1]
      have := bw_top (isBin_stg b1).1 (ho.2.1 b1)
      rw [e1, e2]; push_cast; omega
    · have e1 : nst (f :: l) = 1 + nst l := by show (if nsts f.1 = true then 1 else 0) + nst l = 1 + nst l; rw [b2]; simp
      have e2 : bw (f :: l) = 0 := by show (if isBin f.1 = true then stg f.1 else 0) = 0; rw [b1]; rfl
      rw [e1, e2]; push_cast; omega
/-- the frames of the machine -/
def Fok (ws : List Fr) : Prop := FrsOk ws ∧ okw ws ∧ nst ws ≤ 32
theorem Fok.tail {f : Fr} {l : List Fr} (h : Fok (f :: l)) : Fok l := ⟨fun g hg => h.1 g (List.mem_cons_of_mem _ hg), h.2.1.1, by have := h.2.2; unfold nst at this; omega⟩
theorem Fok.len {ws : List Fr} (h : Fok ws) : ws.length ≤ 197 := by
  have := okw_len h.1 h.2.1
  have := @bw_rng ws
  have := h.2.2
  omega
theorem Fok.ops {ws : List Fr} (h : Fok ws) : opsOk ws := fun f hf => by have := (h.1 f hf).1; omega
theorem Fok.settled {r : Int} : ∀ {ws : List Fr} {pile : List Nat} {ps : List Pt} {σ : St}, Fok ws → stl r ws pile ps = .ok σ → Fok σ.1
  | [], pile, ps, σ, hF, h => by
    simp only [stl, Except.ok.injEq] at h
    subst h
    exact hF
  | f :: ws, pile, ps, σ, hF, h => by
    rw [stl] at h
    by_cases c : r ≤ stg f.1
    · rw [if_pos c] at h
      cases e : comb f.1 f.2.1 pile ps with
      | ok q => rw [e] at h; exact Fok.settled hF.tail h
      | error x => rw [e] at h; cases h
    · rw [if_neg c] at h
      simp only [Except.ok.injEq] at h
      subst h
      exact hF
theorem Fok.bin {op pl : Nat} {ws : List Fr} (h : Fok ws) (hb : isBin op = true) (ht : topS ws < stg op) (hp : pl < 100000) : Fok ((op, pl, 0) :: ws) ∧ ws.length < 197 := by
  have bs := isBin_stg hb
  have e1 : nst ((op, pl, 0) :: ws) = nst ws := by show (if nsts op = true then 1 else 0) + nst ws = nst ws; rw [bs.2.2.2.2]; simp
  refine ⟨⟨?_, ⟨h.2.1, fun _ => ht, fun e => by simp only at e; omega⟩, by rw [e1]; exact h.2.2⟩, ?_⟩
  · intro f hf
    rcases List.mem_cons.mp hf with rfl | hf
    · exact ⟨Or.inr (Or.inr ⟨by simp only; omega, by simp only; omega⟩), by simp, hp⟩
    · exact h.1 f hf
  · have h1 := okw_len h.1 h.2.1
    have h2 := bw_top bs.1 ht
    have h3 := h.2.2
    omega
theorem Fok.nest {op pl cn : Nat} {ws : List Fr} (h : Fok ws) (hb : op = 4 ∨ op = 7 ∨ (9 ≤ op ∧ op ≤ 27)) (hn : nsts op = true) (hq : nst ws < 32) (hc : cn ≤ 1) (hp : pl < 100000) (hx : op = 7 ∨ op = 27 → topS ws < 1) : Fok ((op, pl, cn) :: ws) ∧ ws.length < 197 := by
  have e1 : nst ((op, pl, cn) :: ws) = 1 + nst ws := by show (if nsts op = true then 1 else 0) + nst ws = 1 + nst ws; rw [hn]; simp
  refine ⟨⟨?_, ⟨h.2.1, fun b => ?_, hx⟩, by rw [e1]; omega⟩, ?_⟩
  · intro f hf
    rcases List.mem_cons.mp hf with rfl | hf
    · exact ⟨hb, hc, hp⟩
    · exact h.1 f hf
  · have := (isBin_stg b).2.2.2.2
    rw [show nsts (op, pl, cn).1 = true from hn] at this; cases this
  · have h1 := okw_len h.1 h.2.1
    have h2 := @bw_rng ws
    omega
theorem stg_m1 {f : Fr} (h : FrOk f) (hs : stg f.1 < 0) : f.1 = 4 ∨ f.1 = 7 ∨ f.1 = 23 ∨ f.1 = 24 ∨ f.1 = 25 := by
  obtain ⟨h1, _, _⟩ := h
  have hb : f.1 < 28 := by omega
  revert h1 hs
  generalize f.1 = op at hb
  refine c28 (P := fun op => stg op < 0 → (op = 4 ∨ op = 7 ∨ (9 ≤ op ∧ op ≤ 27)) → op = 4 ∨ op = 7 ∨ op = 23 ∨ op = 24 ∨ op = 25) hb ?_
  repeat' apply And.intro
  all_goals decide
theorem et51 {h : zH} {a : Nat} {b : Bool} {post : zH → Prop} (hf : h.1 29 10 = 0) (hp : wp_P_readBehindTerm (nI a) (b01 b) h post) : b_P_endTerm_51 post (nI a) (b01 b) h := ⟨fun q => absurd hf q, fun _ => hp⟩
theorem et28f {h : zH} {a : Nat} {post : zH → Prop} (hf : h.1 29 10 = 0) (hp : wp_P_readBehindTerm (nI a) (b01 false) h post) : b_P_endTerm_28 post (nI a) 0 h := ⟨fun q => absurd hf q, fun _ => ⟨fun _ => et51 (b := false) hf hp, fun q => absurd rfl q⟩⟩
theorem et28t {h : zH} {a : Nat} {post : zH → Prop} (hf : h.1 29 10 = 0) (ha : a < 28) (hn : ¬ (a = 23 ∨ a = 24 ∨ a = 25)) (hp : wp_P_readBehindTerm (nI a) (b01 true) h post) : b_P_endTerm_28 post (nI a) 1 h := by
  refine ⟨fun q => absurd hf q, fun _ => ⟨fun q => absurd q (by decide), fun _ => sp_R_isFunction ha ?_⟩⟩
  have e : (a == 23 || a == 24 || a == 25) = false := by simp; omega
  rw [e]
  exact ⟨fun _ => et51 (b := true) hf hp, fun q => absurd rfl q⟩
theorem et28c {h : zH} {a : Nat} {post : zH → Prop} (hf : h.1 29 10 = 0) (hn : a = 23 ∨ a = 24 ∨ a = 25) (hp : wp_P_combine h (fun h6 => b_P_endTerm_51 post (nI a) (b01 true) h6)) : b_P_endTerm_28 post (nI a) 1 h := by
  refine ⟨fun q => absurd hf q, fun _ => ⟨fun q => absurd q (by decide), fun _ => sp_R_isFunction (by omega) ?_⟩⟩
  have e : (a == 23 || a == 24 || a == 25) = true := by simp; omega
  rw [e]
  exact ⟨fun q => absurd q (by decide), fun _ => hp⟩
theorem Good.went {h h' : zH} {k : Nat} {σ : St} (hf : h.1 29 10 = 0) (a : Good h h' k σ) : Went h h' k 2 σ := ⟨a.1, a.2.1, a.2.2.1, a.2.2.2.trans hf⟩
set_option maxHeartbeats 1000000 in
theorem sp_P_endTerm {h : zH} {k : Nat} {t : Tk} {σ : St} {post : zH → Prop} (hr : RP h k σ) (hI : Iv σ) (hF : FrsOk σ.1) (ht : KT h t) (hf : h.1 29 10 = 0) (hw : h.1 29 9 = 2)
    (hbad : ∀ e h', endT t σ = .error e → Bad h h' k e → post h') (hgood : ∀ q h', endT t σ = .ok q → Went h h' k q.1 q.2 → post h') : wp_P_endTerm h post := by
  unfold wp_P_endTerm
  show wp_P_settle (Int32.ofInt 0) h _
  refine sp_P_settle (by omega) hr hI hf hw ?_ ?_
  · intro e h8 d1 d2
    have el : endT t σ = .error e := by unfold endT; rw [d1]
    obtain ⟨b1, b2, b3, b4, ws, b5, b6, b7⟩ := id d2
    refine sp_G_topCode b5 b6 (sp_G_topAwaited b5 b6 ?_)
    have nz : ¬ h8.1 29 10 = 0 := by
      rw [b2]; intro q
      have := (nI_lit (d := 0) (by omega) (by decide)).mp q
      omega
    have fin : ∀ a s0, b_P_endTerm_28 post a s0 h8 := fun a s0 => ⟨fun _ => ⟨fun _ => hbad e h8 el d2, fun q => absurd q nz⟩, fun q => absurd q nz⟩
    exact ⟨fun _ => fin _ _, fun _ => fin _ _⟩
  · intro σ' h8 d1 d2
    obtain ⟨I1, I2⟩ := stl_Iv (by omega) _ _ _ σ' (show Iv (σ.1, σ.2.1, σ.2.2) from hI) d1
    have F1 : FrsOk σ'.1 := fun f hf => hF f (stl_suf _ _ _ _ d1 f hf)
    obtain ⟨c1, c2, c3, c4⟩ := id d2
    rw [hf] at c4
    have K1 := ht.same hr.2.1 c1
    obtain ⟨ws, pile, ps⟩ := σ'
    obtain ⟨⟨z1, z2, z3, z4⟩, hB, hPi, hn, hpl⟩ := id I1
    refine sp_G_topCode c2.2.2.1 z1 (sp_G_topAwaited c2.2.2.1 z1 ?_)
    simp only at z1 z2 z3 hB hPi hn
    cases ws with
    | nil =>
      refine ⟨fun q => absurd rfl q, fun _ => et28t (a := 0) c4 (by decide) (by decide) ?_⟩
      by_cases c : t.1 = 1
      · refine rb_end K1 c ?_
        refine hgood (3, [], pile, ps) _ (by unfold endT; rw [d1]; simp only; rw [if_pos c]) ⟨c1.zi (by simp [LPk]), RP_29 (by decide) c2, by simp [zi1, nI], by simp [zi1, c4]⟩
      · refine rb_bad c1 c2 ⟨z1, z2, z3, z4⟩ K1 (by decide) (by rw [if_pos rfl]; exact c) ?_
        exact fun h' b => hbad _ h' (by unfold endT; rw [d1]; simp only; rw [if_neg c]) b
    | cons f l =>
      have fo := F1 f List.mem_cons_self
      have hfs : stg f.1 < 0 := I2
      have fc := stg_m1 fo hfs
      obtain ⟨op, pl, cn⟩ := f
      obtain ⟨fo1, fo2, fo3⟩ := fo
      simp only at fc fo1 fo2 fo3
      have ecc : cC op = op := by unfold cC; rw [if_neg (by omega)]
      have etc : topC ((op, pl, cn) :: l) = op := ecc
      have etw : topW ((op, pl, cn) :: l) = cW (op, pl, cn) := rfl
      rw [etc, etw]
      have ll : l.length < 197 := by simp only [List.length_cons] at z1; omega
      have nds : nd ((op, pl, cn) :: l) = nd1 (op, pl, cn) + nd l := rfl
      have wl : cW (op, pl, cn) ≤ 1 := by unfold cW; simp only; split <;> (try split) <;> omega
      by_cases hfn : op = 25 ∨ ((op = 23 ∨ op = 24) ∧ cn = 1)
      · -- a function whose last term has been read
        have ew : cW (op, pl, cn) = 0 := by
          unfold cW; simp only
          rcases hfn with e | ⟨e, e2⟩
          · rw [if_neg (by omega), if_neg (by omega)]
          · rw [if_neg (by omega), if_pos (by omega)]; omega
        have fn3 : op = 23 ∨ op = 24 ∨ op = 25 := by omega
        rw [ew]
        refine ⟨fun q => absurd rfl q, fun _ => et28c c4 fn3 ?_⟩
        have har : ar op ≤ pile.length := by
          rw [hn, nds]
          unfold ar nd1; simp only
          rcases hfn with e | ⟨e, e2⟩
          · rw [if_neg (by omega), if_pos (by omega)]; omega
          · have : ¬ (isBin op = true ∨ op = 7) := by rcases e with rfl | rfl <;> decide
            rw [if_neg (by omega), if_neg (by omega), if_neg (by omega), if_neg this, if_pos (by omega), e2]; omega
        refine sp_P_combine c2 ⟨z1, z2, z3, z4⟩ hB hPi (by simp only; omega) har fo3 c4 ?_ ?_
        · intro e h9 g1 g2
          have el : endT t σ = .error e := by
            unfold endT; rw [d1]; simp only
            rw [if_pos hfn]
            simp only at g1
            rw [g1]
          refine ⟨fun _ => hbad e h9 el (g2.pre c1), fun q => ?_⟩
          rw [g2.2.1] at q
          have := (nI_lit (d := 0) (by have := g2.2.2.2.1; omega) (by decide)).mp q
          have := g2.2.2.2.1
          omega
        · intro q2 h9 g1 g2
          obtain ⟨g21, g22, g23, g24⟩ := id g2
          have K2 := K1.same hr.2.1 g21
          refine et51 (by rw [g24]; exact c4) ?_
          by_cases c : t.1 = 5
          · refine rb_fun K2 c fn3 ?_
            refine hgood (2, l, q2) h9 (by unfold endT; rw [d1]; simp only; rw [if_pos hfn]; simp only at g1; rw [g1]; simp only; rw [if_pos c]) ⟨c1.tr g21, g22, g23, g24.trans c4⟩
          · have l9 : Szs (l, q2) := by
              obtain ⟨a1, a2, a3, a4, a5⟩ := comb_ok (f := (op, pl, cn)) hB hPi (by simp only; omega) g1
              simp only at a5
              have : 1 ≤ ar op := by unfold ar; split <;> (try split) <;> omega
              exact ⟨by simp only; omega, by simp only; omega, by simp only; omega, fun g hg => z4 g (List.mem_cons_of_mem _ hg)⟩
            refine rb_bad (c1.tr g21) g22 l9 K2 (by omega) (by rw [if_neg (by omega), if_pos rfl]; exact c) ?_
            exact fun h' b => hbad _ h' (by unfold endT; rw [d1]; simp only; rw [if_pos hfn]; simp only at g1; rw [g1]; simp only; rw [if_neg c]) b
      · by_cases h4 : op = 4
        · have ew : cW (op, pl, cn) = 0 := by unfold cW; simp only; rw [if_neg (by omega), if_neg (by omega)]
          rw [ew]
          refine ⟨fun q => absurd rfl q, fun _ => et28t c4 (by omega) (by omega) ?_⟩
          by_cases c : t.1 = 5
          · subst h4
            refine rb_open K1 c (sp_G_pop c2.2.2.1 ll (by simp) fun h9 f9 r9 => ?_)
            have f9' : fr [31, 32, 33, 34] h8 h9 := f9.up (by simp)
            have e29 := (f9 29 (by decide)).1
            refine hgood (2, l, pile, ps) h9 (by unfold endT; rw [d1]; simp only; rw [if_neg hfn, if_pos trivial, if_pos c]) ⟨c1.tr (fr_31 f9'), RP_push f9' c2 r9, by rw [e29]; exact c3, by rw [e29]; exact c4⟩
          · refine rb_bad c1 c2 ⟨z1, z2, z3, z4⟩ K1 (by omega) (by rw [if_neg (by omega), if_pos rfl]; exact c) ?_
            exact fun h' b => hbad _ h' (by unfold endT; rw [d1]; simp only; rw [if_neg hfn, if_pos h4, if_neg c]) b
        · have hnx : op = 7 ∨ ((op = 23 ∨ op = 24) ∧ cn = 0) := by omega
          have ew : cW (op, pl, cn) = 1 := by
            unfold cW; simp only
            rcases hnx with e | ⟨e, e2⟩
            · rw [if_pos e]
            · rw [if_neg (by omega), if_pos e, e2]
          rw [ew]
          refine ⟨fun _ => et28f c4 ?_, fun q => absurd q (by decide)⟩
          by_cases h7 : op = 7
          · subst h7
            by_cases c : t.1 = 8
            · refine rb_next K1 (by rw [if_pos rfl]; exact c) (by omega) (sp_G_came (f2 := (27, pl, 0)) c2.2.2.1 ll (by rfl) rfl (by rw [ew]; rfl) (by rfl) fun h9 f9 r9 => ?_)
              have f9' : fr [31, 32, 33, 34] h8 h9 := f9.up (by simp)
              have e29 := (f9 29 (by decide)).1
              refine hgood (0, (27, pl, 0) :: l, pile, ps) _ (by unfold endT; rw [d1]; simp only; rw [if_neg hfn, if_neg h4, if_pos trivial, if_pos c]) ⟨(c1.tr (fr_31 f9')).zi (by simp [LPk]), RP_29 (by decide) (RP_push f9' c2 r9), by simp [zi1, nI], by simp [zi1, e29, c4]⟩
            · refine rb_bad c1 c2 ⟨z1, z2, z3, z4⟩ K1 (by omega) (by rw [if_neg (by omega), if_neg (by decide), if_pos rfl]; exact c) ?_
              exact fun h' b => hbad _ h' (by unfold endT; rw [d1]; simp only; rw [if_neg hfn, if_neg h4, if_pos trivial, if_neg c]) b
          · have ecn : cn = 0 := by omega
            subst ecn
            by_cases c : t.1 = 6
            · refine rb_next K1 (by rw [if_neg h7]; exact c) (by omega) (sp_G_came (f2 := (op, pl, 1)) c2.2.2.1 ll (by rfl) rfl (by rw [ew]; unfold cW; simp only; rw [if_neg h7, if_pos (by omega)]) (by rfl) fun h9 f9 r9 => ?_)
              have f9' : fr [31, 32, 33, 34] h8 h9 := f9.up (by simp)
              have e29 := (f9 29 (by decide)).1
              refine hgood (0, (op, pl, 1) :: l, pile, ps) _ (by unfold endT; rw [d1]; simp only; rw [if_neg hfn, if_neg h4, if_neg h7, if_pos c]) ⟨(c1.tr (fr_31 f9')).zi (by simp [LPk]), RP_29 (by decide) (RP_push f9' c2 r9), by simp [zi1, nI], by simp [zi1, e29, c4]⟩
            · refine rb_bad c1 c2 ⟨z1, z2, z3, z4⟩ K1 (by omega) (by rw [if_neg (by omega), if_neg (by decide), if_neg h7]; exact c) ?_
              exact fun h' b => hbad _ h' (by unfold endT; rw [d1]; simp only; rw [if_neg hfn, if_neg h4, if_neg h7, if_neg c]) b
