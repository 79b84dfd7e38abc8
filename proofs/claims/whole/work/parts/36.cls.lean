/-- what Range.reckon gives -/
def rgC (op : Nat) (a b c d : Int) : Int × Int := if op = 7 then (min a c, max b d) else if op = 20 ∨ op = 25 ∨ op = 26 then rg1 op c d else rg2 op a b c d
def isOp (op : Nat) : Prop := op = 7 ∨ op = 9 ∨ op = 10 ∨ op = 11 ∨ op = 12 ∨ op = 13 ∨ op = 14 ∨ op = 15 ∨ op = 16 ∨ op = 17 ∨ op = 18 ∨ op = 19 ∨ op = 20 ∨ op = 21 ∨ op = 22 ∨ op = 23 ∨ op = 24 ∨ op = 25 ∨ op = 26
set_option maxHeartbeats 2000000 in
theorem sp_N_reckon {op : Nat} {a b c d : Int} {h : zH} {post : zH → Prop} (hop : isOp op) (e0 : h.2.1 36 0 = jL a) (e1 : h.2.1 36 1 = jL b) (e2 : h.2.1 37 0 = jL c) (e3 : h.2.1 37 1 = jL d) (ha : wi a) (hb : wi b) (hc : wi c) (hd : wi d) (hz : op = 12 → ¬ (c ≤ 0 ∧ 0 ≤ d)) (hcd : c ≤ d)
    (hp : post (zl (zl h 38 0 (jL (rgC op a b c d).1)) 38 1 (jL (rgC op a b c d).2))) : wp_N_reckon 38 (nI op) 36 37 h post := by
  have x36 : xRg 36 := Or.inl rfl
  have x37 : xRg 37 := Or.inr (Or.inl rfl)
  have x38 : xRg 38 := Or.inr (Or.inr rfl)
  unfold wp_N_reckon b_N_reckon_371 b_N_reckon_377
  refine ⟨x38, x36, x37, ?_⟩
  rw [e0, e1, e2, e3]
  have sa := wi_sm ha
  have sb := wi_sm hb
  have sc := wi_sm hc
  have sd := wi_sm hd
  have dflt : (rgC op a b c d) = (0, 1) → wp_N_put 38 0 1 h (fun h2 => post h2) := by
    intro e
    rw [e] at hp
    exact sp_N_put x38 hp
  rcases hop with rfl | rfl | rfl | rfl | rfl | rfl | rfl | rfl | rfl | rfl | rfl | rfl | rfl | rfl | rfl | rfl | rfl | rfl | rfl
  · refine ⟨fun _ => ?_, fun q => absurd rfl q⟩
    refine sp_N_put x38 ?_
    rw [j_min sa sc, j_max sb sd]
    exact hp
  · repeat (refine ⟨fun q => absurd q (by decide), fun _ => ?_⟩)
    refine ⟨fun _ => ?_, fun q => absurd rfl q⟩
    refine sp_N_put x38 ?_
    have g1 : sm (a + c) := by unfold wi at *; unfold sm; omega
    have g2 : sm (b + d) := by unfold wi at *; unfold sm; omega
    rw [j_add sa sc g1, j_add sb sd g2]
    exact hp
  · repeat (refine ⟨fun q => absurd q (by decide), fun _ => ?_⟩)
    refine ⟨fun _ => ?_, fun q => absurd rfl q⟩
    refine sp_N_put x38 ?_
    have g1 : sm (a - d) := by unfold wi at *; unfold sm; omega
    have g2 : sm (b - c) := by unfold wi at *; unfold sm; omega
    rw [j_sub sa sd g1, j_sub sb sc g2]
    exact hp
  · repeat (refine ⟨fun q => absurd q (by decide), fun _ => ?_⟩)
    refine ⟨fun _ => ?_, fun q => absurd rfl q⟩
    have g1 := wi_mul ha hc
    have g2 := wi_mul ha hd
    have g3 := wi_mul hb hc
    have g4 := wi_mul hb hd
    rw [j_mul sa sc g1, j_mul sa sd g2, j_mul sb sc g3, j_mul sb sd g4]
    exact sp_N_cover x38 g1 g2 g3 g4 hp
  · repeat (refine ⟨fun q => absurd q (by decide), fun _ => ?_⟩)
    refine ⟨fun _ => ?_, fun q => absurd rfl q⟩
    have hzz := hz rfl
    have s0 : sm 0 := by unfold sm; omega
    have n1 : ¬ jL c = 0 := fun q => by have := (j_eq sc s0).mp q; omega
    have n2 : ¬ jL d = 0 := fun q => by have := (j_eq sd s0).mp q; omega
    rw [lg_cmp_eq, lg_cmp_eq]
    refine ⟨fun q => absurd q n1, fun _ => ⟨fun q => absurd q n2, fun _ => ⟨n1, n2, n1, n2, ?_⟩⟩⟩
    have g1 := wi_div (b := c) ha
    have g2 := wi_div (b := d) ha
    have g3 := wi_div (b := c) hb
    have g4 := wi_div (b := d) hb
    rw [j_div sa sc g1, j_div sa sd g2, j_div sb sc g3, j_div sb sd g4]
    exact sp_N_cover x38 g1 g2 g3 g4 hp
  · repeat (refine ⟨fun q => absurd q (by decide), fun _ => ?_⟩)
    refine ⟨fun _ => ?_, fun q => absurd rfl q⟩
    exact sp_N_reckonRest x38 x36 x37 (by decide) e0 e1 e2 e3 ha hb hc hd hp
  · repeat (refine ⟨fun q => absurd q (by decide), fun _ => ?_⟩)
    refine ⟨fun _ => ?_, fun q => absurd rfl q⟩
    exact dflt rfl
  · repeat (refine ⟨fun q => absurd q (by decide), fun _ => ?_⟩)
    refine ⟨fun _ => ?_, fun q => absurd rfl q⟩
    exact dflt rfl
  · repeat (refine ⟨fun q => absurd q (by decide), fun _ => ?_⟩)
    refine ⟨fun _ => ?_, fun q => absurd rfl q⟩
    exact dflt rfl
  · repeat (refine ⟨fun q => absurd q (by decide), fun _ => ?_⟩)
    refine ⟨fun _ => ?_, fun q => absurd rfl q⟩
    exact dflt rfl
  · repeat (refine ⟨fun q => absurd q (by decide), fun _ => ?_⟩)
    refine ⟨fun _ => ?_, fun q => absurd rfl q⟩
    exact dflt rfl
  · repeat (refine ⟨fun q => absurd q (by decide), fun _ => ?_⟩)
    refine ⟨fun _ => ?_, fun q => absurd rfl q⟩
    exact dflt rfl
  · repeat (refine ⟨fun q => absurd q (by decide), fun _ => ?_⟩)
    refine ⟨fun _ => ?_, fun q => absurd rfl q⟩
    exact dflt rfl
  · repeat (refine ⟨fun q => absurd q (by decide), fun _ => ?_⟩)
    refine ⟨fun _ => ?_, fun q => absurd rfl q⟩
    exact dflt rfl
  · repeat (refine ⟨fun q => absurd q (by decide), fun _ => ?_⟩)
    refine ⟨fun _ => ?_, fun q => absurd rfl q⟩
    exact dflt rfl
  · repeat (refine ⟨fun q => absurd q (by decide), fun _ => ?_⟩)
    refine ⟨fun _ => ?_, fun q => absurd rfl q⟩
    refine sp_N_put x38 ?_
    rw [j_min sa sc, j_min sb sd]
    exact hp
  · repeat (refine ⟨fun q => absurd q (by decide), fun _ => ?_⟩)
    refine ⟨fun _ => ?_, fun q => absurd rfl q⟩
    refine sp_N_put x38 ?_
    rw [j_max sa sc, j_max sb sd]
    exact hp
  · repeat (refine ⟨fun q => absurd q (by decide), fun _ => ?_⟩)
    refine ⟨fun _ => ?_, fun q => absurd rfl q⟩
    exact sp_N_reckonSize x38 x37 e2 e3 sc sd hp
  · repeat (refine ⟨fun q => absurd q (by decide), fun _ => ?_⟩)
    refine ⟨fun _ => ?_, fun q => absurd rfl q⟩
    refine sp_N_put x38 ?_
    have g1 : sm (-c) := by unfold wi at *; unfold sm; omega
    have g2 : sm (-d) := by unfold wi at *; unfold sm; omega
    rw [j_neg sc g1, j_neg sd g2]
    exact hp
def kG (op kr : Nat) : Nat := if op = 7 then kr else if op = 20 ∨ (14 ≤ op ∧ op ≤ 19) ∨ op = 21 ∨ op = 22 then 1 else 0
theorem sp_P_kindGiven {h : zH} {k op y : Nat} {ps : List Pt} {post : Int32 → zH → Prop} (ek : h.2.2 29 8 = k) (hk : xTm k) (hr : RT h k ps) (hl : ps.length ≤ 100) (hop : op < 28) (hy : y < ps.length) (hp : post (nI (kG op (pKd (pget ps y)))) h) : wp_P_kindGiven (nI op) (nI y) h post := by
  unfold wp_P_kindGiven b_P_kindGiven_35 b_P_kindGiven_40 b_P_kindGiven_53 b_P_kindGiven_58
  rw [ek]
  by_cases h7 : op = 7
  · subst h7
    refine ⟨fun q => absurd rfl q, fun _ => ⟨hk, sp_T_kindOf hk hr hl hy ?_⟩⟩
    simpa [kG] using hp
  · refine ⟨fun _ => sp_R_strengthOf hop ?_, fun q => absurd ((nI_lit (d := 7) (by omega) (by decide)).mp q) h7⟩
    rcases (show op = 0 ∨ op = 1 ∨ op = 2 ∨ op = 3 ∨ op = 4 ∨ op = 5 ∨ op = 6 ∨ op = 7 ∨ op = 8 ∨ op = 9 ∨ op = 10 ∨ op = 11 ∨ op = 12 ∨ op = 13 ∨ op = 14 ∨ op = 15 ∨ op = 16 ∨ op = 17 ∨ op = 18 ∨ op = 19 ∨ op = 20 ∨ op = 21 ∨ op = 22 ∨ op = 23 ∨ op = 24 ∨ op = 25 ∨ op = 26 ∨ op = 27 by omega) with rfl | rfl | rfl | rfl | rfl | rfl | rfl | rfl | rfl | rfl | rfl | rfl | rfl | rfl | rfl | rfl | rfl | rfl | rfl | rfl | rfl | rfl | rfl | rfl | rfl | rfl | rfl | rfl <;> first | (exact absurd rfl h7) | (simp [nI, kG, cStr] at hp ⊢; exact hp)
