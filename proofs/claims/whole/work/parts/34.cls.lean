theorem nI_max {a b : Nat} (ha : a < 2147483648) (hb : b < 2147483648) : (if nI a < nI b then nI b else nI a) = nI (max a b) := by
  by_cases c : a < b
  · rw [if_pos ((nI_ltI ha hb).mpr c), Nat.max_eq_right (by omega)]
  · rw [if_neg (fun q => c ((nI_ltI ha hb).mp q)), Nat.max_eq_left (by omega)]
theorem sp_T_depthOfS {h : zH} {k i : Nat} {ps : List Pt} {post : Int32 → zH → Prop} (hk : xTm k) (hs : h.1 k 10 = nI (ps.length + 1)) (st : StkT h k ps) (hl : ps.length < 100) (hi : i < ps.length) (hp : post (nI (pDp (pget ps i))) h) : wp_T_depthOf k (nI i) h post := by
  unfold wp_T_depthOf b_T_depthOf_20
  refine ⟨hk, sp_T_hasS hk hs (by omega) (by omega) ⟨fun q => absurd q (by decide), fun _ => sp_R_at (xTm_row hk (by decide) (by decide)) (by decide) ?_⟩⟩
  rw [fAt_nI (by omega) (by decide), (st.get hi).2.2.2.2.2.2.2.2]; exact hp
def dpOk (ps : List Pt) : Prop := ∀ i, i < ps.length → pDp (pget ps i) < 1000000
theorem sp_T_tellTaken {h : zH} {k x y op z : Nat} {ps : List Pt} {post : zH → Prop} (hk : xTm k) (hs : h.1 k 10 = nI (ps.length + 1)) (st : StkT h k ps) (hl : ps.length < 100) (hd : dpOk ps) (hx : x < ps.length) (hy : y < ps.length) (hop : op < 28) (ho : h.1 (k + 1) ps.length = nI op) (hz : op = 7 → z < ps.length ∧ h.1 (k + 8) ps.length = nI z)
    (hp : post (zi (zi (zi h (k + 6) ps.length (nI x)) (k + 7) ps.length (nI y)) (k + 9) ps.length (nI ((if op = 7 then max (max (pDp (pget ps x)) (pDp (pget ps y))) (pDp (pget ps z)) else max (pDp (pget ps x)) (pDp (pget ps y))) + 1)))) : wp_T_tellTaken k (nI x) (nI y) h post := by
  unfold wp_T_tellTaken b_T_tellTaken_72 b_T_tellTaken_82
  have hlt : ps.length < 2147483648 := by omega
  rw [hs, nI_pred]
  have hin : vp_in (nI ps.length) 100 := vp_in_nI hl (by decide)
  refine ⟨hk, sp_T_hasS hk hs (by omega) (by omega) ⟨fun q => absurd q (by decide), fun _ => ⟨hin, fun h4 g4 => ⟨hin, fun h5 g5 => ?_⟩⟩⟩⟩
  rw [nI_clamp' hlt] at g4 g5
  have hs5 : h5.1 k 10 = nI (ps.length + 1) := by rw [g5, g4]; simp [zi1, hs]
  have st5 : StkT h5 k ps := by
    refine StkT.same (h := h) (fun i j hi h1 h9 => ?_) st
    have hne : ¬ i = ps.length := by omega
    rw [g5, g4]; simp [zi1, hne]
  have dx := hd x hx
  have dy := hd y hy
  refine sp_T_depthOfS hk hs5 st5 hl hx (sp_T_depthOfS hk hs5 st5 hl hy ⟨hin, ?_⟩)
  rw [nI_clamp' hlt, nI_max (by omega) (by omega)]
  have o5 : h5.1 (k + 1) ps.length = nI op := by rw [g5, g4]; simp [zi1, ho]
  rw [o5]
  refine ⟨fun q => ⟨hin, fun h1 g1 => ?_⟩, fun q => ⟨hin, ?_⟩⟩
  · have q' : ¬ op = 7 := fun e => q ((nI_lit (d := 7) (by omega) (by decide)).mpr e)
    rw [if_neg q'] at hp
    rw [nI_1] at g1
    rw [g1, g5, g4]
    exact hp
  · have q' : op = 7 := (nI_lit (d := 7) (by omega) (by decide)).mp q
    obtain ⟨hz1, hz2⟩ := hz q'
    have dz := hd z hz1
    have z5 : h5.1 (k + 8) ps.length = nI z := by rw [g5, g4]; simp [zi1, hz2]
    rw [z5]
    refine sp_T_depthOfS hk hs5 st5 hl hz1 ⟨hin, fun h1 g1 => ?_⟩
    rw [if_pos q'] at hp
    rw [nI_max (by omega) (by omega), nI_1] at g1
    rw [g1, g5, g4]
    exact hp
def kdOk (ps : List Pt) : Prop := ∀ i, i < ps.length → pKd (pget ps i) < 2
def cFit (op kl kr ka : Nat) : Bool := decide (kl = kr) && (if op = 18 ∨ op = 19 then true else if op = 7 then decide (ka = 1) else if op = 20 ∨ op = 21 ∨ op = 22 then decide (kr = 1) else decide (kr = 0))
theorem sp_P_kindsFit {h : zH} {k op x y z : Nat} {ps : List Pt} {ex : Int32} {post : Int32 → zH → Prop} (ek : h.2.2 29 8 = k) (hk : xTm k) (hr : RT h k ps) (hl : ps.length ≤ 100) (hkd : kdOk ps) (hop : op < 28) (hx : x < ps.length) (hy : y < ps.length) (hz : op = 7 → z < ps.length ∧ ex = nI z)
    (hp : post (b01 (cFit op (pKd (pget ps x)) (pKd (pget ps y)) (pKd (pget ps z)))) h) : wp_P_kindsFit (nI op) (nI x) (nI y) ex h post := by
  unfold wp_P_kindsFit
  rw [ek]
  have kx := hkd x hx
  have ky := hkd y hy
  refine ⟨hk, sp_T_kindOf hk hr hl hx ?_⟩
  rw [ek]
  refine ⟨hk, sp_T_kindOf hk hr hl hy ?_⟩
  have b121 : ∀ post : Int32 → zH → Prop, post (b01 (decide (pKd (pget ps y) = 1))) h → b_P_kindsFit_121 post (nI y) h := by
    intro post hp
    unfold b_P_kindsFit_121 b_P_kindsFit_138
    rw [ek]
    refine ⟨hk, sp_T_kindOf hk hr hl hy ⟨fun q => ⟨rfl, ?_⟩, fun q => ⟨rfl, ?_⟩⟩⟩
    · have : ¬ pKd (pget ps y) = 1 := fun e => q ((nI_lit (d := 1) (by omega) (by decide)).mpr e)
      simpa [b01, this] using hp
    · have : pKd (pget ps y) = 1 := (nI_lit (d := 1) (by omega) (by decide)).mp q
      simpa [b01, this] using hp
  have b139 : ∀ post : Int32 → zH → Prop, post (b01 (decide (pKd (pget ps y) = 0))) h → b_P_kindsFit_139 post (nI y) h := by
    intro post hp
    unfold b_P_kindsFit_139 b_P_kindsFit_155
    rw [ek]
    refine ⟨hk, sp_T_kindOf hk hr hl hy ⟨fun q => ⟨rfl, ?_⟩, fun q => ⟨rfl, ?_⟩⟩⟩
    · have : ¬ pKd (pget ps y) = 0 := fun e => q ((nI_lit (d := 0) (by omega) (by decide)).mpr e)
      simpa [b01, this] using hp
    · have : pKd (pget ps y) = 0 := (nI_lit (d := 0) (by omega) (by decide)).mp q
      simpa [b01, this] using hp
  refine ⟨fun q => ?_, fun q => ?_⟩
  · have e : pKd (pget ps x) = pKd (pget ps y) := (nI_eq (by omega) (by omega)).mp q
    have hc : ∀ ka, cFit op (pKd (pget ps x)) (pKd (pget ps y)) ka = (if op = 18 ∨ op = 19 then true else if op = 7 then decide (ka = 1) else if op = 20 ∨ op = 21 ∨ op = 22 then decide (pKd (pget ps y) = 1) else decide (pKd (pget ps y) = 0)) := by
      intro ka; unfold cFit; rw [e]; simp
    rw [hc] at hp
    clear hc
    by_cases h7 : op = 7
    · subst h7
      obtain ⟨hz1, hz2⟩ := hz rfl
      have kz := hkd z hz1
      refine ⟨fun _ => ?_, fun q => absurd rfl q⟩
      rw [ek, hz2]
      refine ⟨hk, sp_T_kindOf hk hr hl hz1 ?_⟩
      unfold b_P_kindsFit_120
      refine ⟨fun q => ⟨rfl, ?_⟩, fun q => ⟨rfl, ?_⟩⟩
      · have : ¬ pKd (pget ps z) = 1 := fun e => q ((nI_lit (d := 1) (by omega) (by decide)).mpr e)
        simpa [b01, this] using hp
      · have : pKd (pget ps z) = 1 := (nI_lit (d := 1) (by omega) (by decide)).mp q
        simpa [b01, this] using hp
    · refine ⟨fun q => absurd ((nI_lit (d := 7) (by omega) (by decide)).mp q) h7, fun _ => ?_⟩
      rw [if_neg h7] at hp
      clear hz
      unfold b_P_kindsFit_100
      rcases (show op = 0 ∨ op = 1 ∨ op = 2 ∨ op = 3 ∨ op = 4 ∨ op = 5 ∨ op = 6 ∨ op = 7 ∨ op = 8 ∨ op = 9 ∨ op = 10 ∨ op = 11 ∨ op = 12 ∨ op = 13 ∨ op = 14 ∨ op = 15 ∨ op = 16 ∨ op = 17 ∨ op = 18 ∨ op = 19 ∨ op = 20 ∨ op = 21 ∨ op = 22 ∨ op = 23 ∨ op = 24 ∨ op = 25 ∨ op = 26 ∨ op = 27 by omega) with rfl | rfl | rfl | rfl | rfl | rfl | rfl | rfl | rfl | rfl | rfl | rfl | rfl | rfl | rfl | rfl | rfl | rfl | rfl | rfl | rfl | rfl | rfl | rfl | rfl | rfl | rfl | rfl <;> first | (exact absurd rfl h7) | (simp [nI, b01] at hp ⊢; first | exact hp | exact b121 _ (by simpa [b01] using hp) | exact b139 _ (by simpa [b01] using hp))
  · have e : ¬ pKd (pget ps x) = pKd (pget ps y) := fun e => q (by rw [e])
    have : cFit op (pKd (pget ps x)) (pKd (pget ps y)) (pKd (pget ps z)) = false := by unfold cFit; simp [e]
    rw [this] at hp
    exact hp
