/-! READS BEHIND WRITES -/
theorem zi1 (h : zH) (k j : Nat) (x : Int32) (a b : Nat) : (zi h k j x).1 a b = if a = k ∧ b = j then x else h.1 a b := rfl
theorem zi2 (h : zH) (k j : Nat) (x : Int32) : (zi h k j x).2 = h.2 := rfl
theorem zl1 (h : zH) (k j : Nat) (x : Int64) : (zl h k j x).1 = h.1 := rfl
theorem zl2 (h : zH) (k j : Nat) (x : Int64) (a b : Nat) : (zl h k j x).2.1 a b = if a = k ∧ b = j then x else h.2.1 a b := rfl
theorem zl3 (h : zH) (k j : Nat) (x : Int64) : (zl h k j x).2.2 = h.2.2 := rfl
theorem zr1 (h : zH) (k j x : Nat) : (zr h k j x).1 = h.1 := rfl
theorem zr2 (h : zH) (k j x : Nat) : (zr h k j x).2.1 = h.2.1 := rfl
theorem zr3 (h : zH) (k j x : Nat) (a b : Nat) : (zr h k j x).2.2 a b = if a = k ∧ b = j then x else h.2.2 a b := rfl
/-- what may have changed lies in these cells -/
def fr (L : List Nat) (h h' : zH) : Prop := ∀ c : Nat, c ∉ L → h'.1 c = h.1 c ∧ h'.2.1 c = h.2.1 c ∧ h'.2.2 c = h.2.2 c
theorem fr.rf {L : List Nat} {h : zH} : fr L h h := fun _ _ => ⟨rfl, rfl, rfl⟩
theorem fr.tr {L : List Nat} {h h1 h2 : zH} (a : fr L h h1) (b : fr L h1 h2) : fr L h h2 := fun c hc => ⟨(b c hc).1.trans (a c hc).1, (b c hc).2.1.trans (a c hc).2.1, (b c hc).2.2.trans (a c hc).2.2⟩
theorem fr.up {L M : List Nat} {h h1 : zH} (a : fr L h h1) (hs : ∀ c ∈ L, c ∈ M) : fr M h h1 := fun c hc => a c (fun q => hc (hs c q))
theorem fr.zi {L : List Nat} {h h1 : zH} {k j : Nat} {x : Int32} (a : fr L h h1) (hk : k ∈ L) : fr L h (zi h1 k j x) := a.tr (fun c hc => ⟨zi_ne (fun e => hc (e ▸ hk)), rfl, rfl⟩)
theorem fr.zl {L : List Nat} {h h1 : zH} {k j : Nat} {x : Int64} (a : fr L h h1) (hk : k ∈ L) : fr L h (zl h1 k j x) := a.tr (fun c hc => ⟨rfl, zl_ne (fun e => hc (e ▸ hk)), rfl⟩)
theorem fr.zr {L : List Nat} {h h1 : zH} {k j x : Nat} (a : fr L h h1) (hk : k ∈ L) : fr L h (zr h1 k j x) := a.tr (fun c hc => ⟨rfl, rfl, zr_ne (fun e => hc (e ▸ hk))⟩)
theorem fAt_nI {f : Nat → Int32} {N n : Nat} (h : n < N) (hN : N < 2 ^ 31) : fAt f N (nI n) = f n := by
  unfold fAt
  rw [if_neg (nI_pos (by omega)), if_neg (show ¬ Int32.ofNat N ≤ nI n from nI_ge h hN), nI_clamp (by omega)]
theorem fAt_m1 {f : Nat → Int32} {N : Nat} : fAt f N (-1) = 0 := by
  unfold fAt
  rw [if_pos (by decide)]
/-! PENDING -/
def cC (op : Nat) : Nat := if op = 27 then 7 else op
def cW (f : Fr) : Nat := if f.1 = 7 then 1 else if f.1 = 23 ∨ f.1 = 24 then 1 - f.2.2 else 0
def StkG (h : zH) : List Fr → Prop
  | [] => True
  | f :: l => h.1 32 l.length = nI (cC f.1) ∧ h.1 33 l.length = nI f.2.1 ∧ h.1 34 l.length = nI (cW f) ∧ StkG h l
def RG (h : zH) (ws : List Fr) : Prop := h.1 31 3 = nI ws.length ∧ h.1 31 4 = nI (nst ws) ∧ StkG h ws
def topC : List Fr → Nat
  | [] => 0
  | f :: _ => cC f.1
theorem StkG.same {h h' : zH} : ∀ {ws : List Fr}, (∀ i, i < ws.length → h'.1 32 i = h.1 32 i ∧ h'.1 33 i = h.1 33 i ∧ h'.1 34 i = h.1 34 i) → StkG h ws → StkG h' ws
  | [], _, _ => trivial
  | f :: l, e, a => by
    obtain ⟨e1, e2, e3⟩ := e l.length (by simp)
    exact ⟨e1.trans a.1, e2.trans a.2.1, e3.trans a.2.2.1, StkG.same (fun i hi => e i (by simp only [List.length_cons]; omega)) a.2.2.2⟩
theorem sp_G_topCode {h : zH} {ws : List Fr} {post : Int32 → zH → Prop} (hr : RG h ws) (hl : ws.length ≤ 197) (hp : post (nI (topC ws)) h) : wp_G_topCode h post := by
  unfold wp_G_topCode b_G_topCode_24
  obtain ⟨e1, e2, e3⟩ := hr
  cases ws with
  | nil => exact ⟨fun _ => hp, fun q => absurd (by rw [e1]; decide) q⟩
  | cons f l =>
    simp only [List.length_cons] at e1 hl
    refine ⟨fun q => absurd q (by rw [e1]; exact nI_nle (by omega) (by omega)), fun _ => ?_⟩
    refine sp_R_at (xRow_c 32 197) (by decide) ?_
    rw [e1, nI_pred, fAt_nI (by omega) (by decide), e3.1]
    exact hp
theorem c28 {c : Nat} {P : Nat → Prop} (hc : c < 28) (h : P 0 ∧ P 1 ∧ P 2 ∧ P 3 ∧ P 4 ∧ P 5 ∧ P 6 ∧ P 7 ∧ P 8 ∧ P 9 ∧ P 10 ∧ P 11 ∧ P 12 ∧ P 13 ∧ P 14 ∧ P 15 ∧ P 16 ∧ P 17 ∧ P 18 ∧ P 19 ∧ P 20 ∧ P 21 ∧ P 22 ∧ P 23 ∧ P 24 ∧ P 25 ∧ P 26 ∧ P 27) : P c := by
  rcases (show c = 0 ∨ c = 1 ∨ c = 2 ∨ c = 3 ∨ c = 4 ∨ c = 5 ∨ c = 6 ∨ c = 7 ∨ c = 8 ∨ c = 9 ∨ c = 10 ∨ c = 11 ∨ c = 12 ∨ c = 13 ∨ c = 14 ∨ c = 15 ∨ c = 16 ∨ c = 17 ∨ c = 18 ∨ c = 19 ∨ c = 20 ∨ c = 21 ∨ c = 22 ∨ c = 23 ∨ c = 24 ∨ c = 25 ∨ c = 26 ∨ c = 27 by omega) with rfl | rfl | rfl | rfl | rfl | rfl | rfl | rfl | rfl | rfl | rfl | rfl | rfl | rfl | rfl | rfl | rfl | rfl | rfl | rfl | rfl | rfl | rfl | rfl | rfl | rfl | rfl | rfl <;> simp only [h]
def b01 (b : Bool) : Int32 := if b = true then 1 else 0
def cNest (c : Nat) : Bool := c == 4 || c == 7 || c == 20 || c == 23 || c == 24 || c == 25 || c == 26
theorem sp_G_nests {c : Nat} {h : zH} {post : Int32 → zH → Prop} (hc : c < 28) (hp : post (b01 (cNest c)) h) : wp_G_nests (nI c) h post := by
  revert hp
  refine c28 (P := fun c => post (b01 (cNest c)) h → wp_G_nests (nI c) h post) hc ?_
  unfold wp_G_nests b_G_nests_108 b_G_nests_110 b01 cNest
  simp [nI]
theorem nI_lit {c d : Nat} (hc : c < 2147483648) (hd : d < 2147483648) : nI c = (no_index (OfNat.ofNat d : Int32)) ↔ c = d := nI_eq (b := d) hc hd
theorem nI_le_lit {c d : Nat} (hc : c < 2147483648) (hd : d < 2147483648) : nI c ≤ (no_index (OfNat.ofNat d : Int32)) ↔ c ≤ d := nI_leI (b := d) hc hd
theorem nI_lt_lit {c d : Nat} (hc : c < 2147483648) (hd : d < 2147483648) : nI c < (no_index (OfNat.ofNat d : Int32)) ↔ c < d := nI_ltI (b := d) hc hd
theorem lit_le_nI {c d : Nat} (hc : c < 2147483648) (hd : d < 2147483648) : (no_index (OfNat.ofNat d : Int32)) ≤ nI c ↔ d ≤ c := nI_leI (a := d) hd hc
theorem lit_lt_nI {c d : Nat} (hc : c < 2147483648) (hd : d < 2147483648) : (no_index (OfNat.ofNat d : Int32)) < nI c ↔ d < c := nI_ltI (a := d) hd hc
theorem nI_m1 {c : Nat} (hc : c < 2147483648) : ¬ nI c = (-1) := by
  intro e
  have := congrArg Int32.toInt e
  rw [nI_toInt hc] at this
  simp at this
theorem tst4 (c : Nat) (hc : c < 28) (h : nI c = 5) : c = 5 := by
  have hc' : c < 2147483648 := by omega
  simp [nI_lit, hc'] at h
  exact h
theorem cNest_cC {c : Nat} (hc : c < 28) : cNest (cC c) = nsts c := by
  refine c28 (P := fun c => cNest (cC c) = nsts c) hc ?_
  decide
theorem cC_lt {c : Nat} (hc : c < 28) : cC c < 28 := by unfold cC; split <;> omega
theorem sp_G_pop {h : zH} {f : Fr} {l : List Fr} {post : zH → Prop} (hr : RG h (f :: l)) (hl : l.length < 197) (hf : f.1 < 28) (hp : ∀ h', fr [31] h h' → RG h' l → post h') : wp_G_pop h post := by
  unfold wp_G_pop b_G_pop_27 b_G_pop_41
  obtain ⟨e1, e2, e3⟩ := id hr
  simp only [List.length_cons] at e1
  refine ⟨fun q => absurd q (by rw [e1]; exact nI_nle (by omega) (by omega)), fun _ => ?_⟩
  refine sp_G_topCode hr (by simp only [List.length_cons]; omega) ?_
  refine sp_G_nests (c := cC f.1) (cC_lt hf) ?_
  rw [cNest_cC hf]
  have fin : ∀ s0 : Int32, nI (nst (f :: l)) - s0 = nI (nst l) → ∀ h1 : zH, h1 = zi h 31 4 (h.1 31 4 - s0) → ∀ h2 : zH, h2 = zi h1 31 3 (h1.1 31 3 - 1) → post h2 := by
    intro s0 es h1 g1 h2 g2
    refine hp h2 (by rw [g2, g1]; exact (fr.rf.zi (by simp)).zi (by simp)) ⟨?_, ?_, ?_⟩
    · rw [g2, g1]; simp [zi1, e1, nI_pred]
    · rw [g2, g1]; simp [zi1, e2, es]
    · refine StkG.same (h := h) (fun i hi => ?_) e3.2.2.2
      rw [g2, g1]; simp [zi1]
  unfold b01
  by_cases hn : nsts f.1 = true
  · rw [if_pos hn]
    refine ⟨fun q => absurd q (by decide), fun _ => fin 1 ?_⟩
    simp only [nst, if_pos hn]
    rw [Nat.add_comm]; exact nI_pred _
  · rw [if_neg hn]
    refine ⟨fun _ => fin 0 ?_, fun q => absurd rfl q⟩
    simp only [nst, if_neg hn]
    rw [Nat.zero_add]; simp
theorem nI_clamp' {n : Nat} (h : n < 2147483648) : (nI n).toNatClampNeg = n := nI_clamp h
theorem sp_G_push {h : zH} {op pl : Nat} {ws : List Fr} {post : zH → Prop} (hr : RG h ws) (hl : ws.length < 197) (hn : nst ws < 1000) (hop : op < 27) (hp : ∀ h', fr [31, 32, 33, 34] h h' → RG h' ((op, pl, 0) :: ws) → post h') : wp_G_push (nI op) (nI pl) h post := by
  unfold wp_G_push b_G_push_57 b_G_push_62 b_G_push_90
  obtain ⟨e1, e2, e3⟩ := id hr
  have hlt : ws.length < 2147483648 := by omega
  refine ⟨fun _ => ?_, fun q => absurd (by rw [e1]; exact (nI_lt_lit hlt (by decide)).mpr hl) q⟩
  refine ⟨by rw [e1]; exact vp_in_nI hl (by decide), fun h6 g6 => ?_⟩
  have f1 : h6.1 31 3 = nI ws.length := by rw [g6]; simp [zi1, e1]
  refine ⟨by rw [f1]; exact vp_in_nI hl (by decide), fun h7 g7 => ?_⟩
  have f2 : h7.1 31 3 = nI ws.length := by rw [g7]; simp [zi1, f1]
  rw [f1, nI_clamp' hlt] at g7
  rw [e1, nI_clamp' hlt] at g6
  have fin : ∀ w : Nat, cW (op, pl, 0) = w → vp_in (h7.1 31 3) 197 ∧ ∀ h2 : zH, h2 = zi h7 34 (h7.1 31 3).toNatClampNeg (nI w) → ∀ h3 : zH, h3 = zi h2 31 3 (h2.1 31 3 + 1) → wp_G_nests (nI op) h3 fun r4 h5 => (r4 = 0 → ∀ h1 : zH, h1 = zi h5 31 4 (h3.1 31 4 + 0) → post h1) ∧ (¬ r4 = 0 → ∀ h1 : zH, h1 = zi h5 31 4 (h3.1 31 4 + 1) → post h1) := by
    intro w hw
    refine ⟨by rw [f2]; exact vp_in_nI hl (by decide), fun h2 g2 h3 g3 => ?_⟩
    rw [f2, nI_clamp' hlt] at g2
    have f3 : h2.1 31 3 = nI ws.length := by rw [g2]; simp [zi1, f2]
    rw [f3, nI_1] at g3
    have f4 : h3.1 31 4 = nI (nst ws) := by rw [g3, g2, g7, g6]; simp [zi1, e2]
    refine sp_G_nests (by omega) ?_
    have hop27 : ¬ op = 27 := by omega
    have hcc : cC op = op := by unfold cC; rw [if_neg hop27]
    have key : ∀ x : Int32, x = nI (nst ((op, pl, 0) :: ws)) → ∀ h1 : zH, h1 = zi h3 31 4 x → post h1 := by
      intro x ex h1 g1
      refine hp h1 ?_ ⟨?_, ?_, ?_, ?_, ?_, ?_⟩
      · rw [g1, g3, g2, g7, g6]
        exact ((((fr.rf.zi (by simp)).zi (by simp)).zi (by simp)).zi (by simp)).zi (by simp)
      · rw [g1, g3]; simp [zi1]
      · rw [g1]; simp [zi1, ex]
      · rw [g1, g3, g2, g7, g6]; simp [zi1, hcc]
      · rw [g1, g3, g2, g7, g6]; simp [zi1]
      · rw [g1, g3, g2, g7, g6]; simp [zi1, hw]
      · refine StkG.same (h := h) (fun i hi => ?_) e3
        have hne : ¬ i = ws.length := by omega
        rw [g1, g3, g2, g7, g6]; simp [zi1, hne]
    have hcn : cNest op = nsts op := by have := cNest_cC (c := op) (by omega); rwa [hcc] at this
    unfold b01
    by_cases hb : cNest op = true
    · rw [if_pos hb]
      refine ⟨fun q => absurd q (by decide), fun _ => key _ ?_⟩
      rw [f4, nI_1]; simp only [nst, ← hcn, if_pos hb, Nat.add_comm]
    · rw [if_neg hb]
      refine ⟨fun _ => key _ ?_, fun q => absurd rfl q⟩
      rw [f4]; simp only [nst, ← hcn, if_neg hb, Nat.zero_add]; simp
  have ho : op < 2147483648 := by omega
  refine ⟨fun q => ?_, fun q => ⟨fun q2 => ?_, fun q2 => ⟨fun q3 => ?_, fun q3 => ?_⟩⟩⟩
  · rw [nI_lit ho (by decide)] at q
    exact fin 1 (by simp [cW, q])
  · rw [nI_lit ho (by decide)] at q2
    exact fin 1 (by simp [cW, q2])
  · rw [nI_lit ho (by decide)] at q q2 q3
    exact fin 0 (by simp [cW, q, q2, q3])
  · rw [nI_lit ho (by decide)] at q3
    exact fin 1 (by simp [cW, q3])
