theorem sp_T_workedOut {h : zH} {k i : Nat} {ps : List Pt} {v : Int64} {post : Int64 → zH → Prop} (hk : xTm k) (hr : RT h k ps) (hl : ps.length ≤ 100) (hi : i < ps.length) (e : h.2.1 (k + 10) i = v) (hp : post v h) : wp_T_workedOut k (nI i) h post := by
  unfold wp_T_workedOut b_T_workedOut_18
  refine ⟨hk, sp_T_has hk hr hl (by omega) ?_⟩
  rw [show decide (i < ps.length) = true by simpa using hi, nI_clamp' (by omega), e]
  exact ⟨fun q => absurd q (by decide), fun _ => ⟨vp_in_nI (by omega) (by decide), hp⟩⟩
theorem sp_T_workedOutM {h : zH} {k : Nat} {post : Int64 → zH → Prop} (hk : xTm k) (hp : post 0 h) : wp_T_workedOut k (-1) h post := by
  unfold wp_T_workedOut b_T_workedOut_18
  exact ⟨hk, sp_T_hasM hk ⟨fun _ => hp, fun q => absurd rfl q⟩⟩
set_option maxHeartbeats 1000000 in
theorem sp_T_work {h : zH} {k j : Nat} {vr : Vr} {wv : Nat → Int} {ps : List Pt} {post : Int64 → zH → Prop} (c : VC vr wv ps) (hk : xTm k) (hr : RT h k ps) (hj : j < ps.length) (hw : ∀ i, i < vr.1 → h.1 4 i = Int32.ofInt (wv i)) (hv : ∀ x, x < j → h.2.1 (k + 10) x = jL (vget wv ps x)) (hp : post (jL (vget wv ps j)) h) : wp_T_work k (nI j) h post := by
  have hl := c.2.2.1
  obtain ⟨p1, p2, p3, p4, p5, p6, p7, p8, p9⟩ := hr.2.get hj
  have wf := c.1.at j hj
  have ev := vget_at (wv := wv) c.1 j hj
  rw [ev] at hp
  unfold vPt at hp
  have rowA : ∀ (jj : Nat) (x : Int32) (post : Int32 → zH → Prop), 1 ≤ jj → jj ≤ 9 → h.1 (k + jj) j = x → post x h → wp_R_at (k + jj) 100 (nI j) h post := by
    intro jj x post h1 h9 ex hq
    refine sp_R_at (xTm_row hk h1 h9) (by decide) ?_
    rw [fAt_nI (by omega) (by decide), ex]; exact hq
  have out : ∀ (x : Nat) (post : Int64 → zH → Prop), x < j → post (jL (vget wv ps x)) h → wp_T_workedOut k (nI x) h post := fun x post hx hq => sp_T_workedOut hk hr hl (by omega) (hv x hx) hq
  have hop : pOp (pget ps j) < 28 := by
    rcases wf with w | w | w | w | w
    · omega
    · omega
    · omega
    · have := w.1; unfold two at this; omega
    · omega
  have L : ∀ d : Nat, d < 2147483648 → (nI (pOp (pget ps j)) = (no_index (OfNat.ofNat d : Int32)) ↔ pOp (pget ps j) = d) := fun d hd => nI_lit (by omega) hd
  unfold wp_T_work
  refine ⟨hk, rowA 1 _ _ (by decide) (by decide) p1 (rowA 6 _ _ (by decide) (by decide) p6 ?_)⟩
  rcases wf with w | w | w | w | w
  · have e6 : cL (pget ps j) = -1 := by unfold cL; rw [if_pos (by omega)]
    have e7 : cR (pget ps j) = -1 := by unfold cR; rw [if_pos (by omega)]
    rw [if_pos w.1] at hp
    rw [e6]
    refine sp_T_workedOutM hk (rowA 7 _ _ (by decide) (by decide) p7 ?_)
    rw [e7, L 2 (by decide)]
    refine sp_T_workedOutM hk ⟨fun _ => sp_T_lowOf hk hr hl hj ?_, fun q => absurd w.1 q⟩
    rw [i2j (c.2.1 j hj).2.2.1]; exact hp
  · obtain ⟨w1, w2, w3, w4, w5⟩ := w
    have e6 : cL (pget ps j) = -1 := by unfold cL; rw [if_pos (by omega)]
    have e7 : cR (pget ps j) = -1 := by unfold cR; rw [if_pos (by omega)]
    have e8 : cX (pget ps j) = nI (pC (pget ps j)) := by unfold cX; rw [if_pos w1]
    rw [if_neg (by omega), if_pos w1] at hp
    rw [e6]
    refine sp_T_workedOutM hk (rowA 7 _ _ (by decide) (by decide) p7 ?_)
    rw [e7, L 2 (by decide), L 3 (by decide)]
    refine sp_T_workedOutM hk ⟨fun q => by omega, fun _ => ⟨fun _ => rowA 8 _ _ (by decide) (by decide) p8 ?_, fun q => absurd w1 q⟩⟩
    have v20 := c.2.2.2.1.1
    unfold wp_V_worthOf
    rw [e8]
    refine sp_R_at (xRow_c 4 20) (by decide) ?_
    have hwi : wi (wv (pC (pget ps j))) := by
      have h1 := c.2.2.2.1.2 _ w3
      have h2 := c.2.2.2.2 _ w3
      unfold wi at *
      omega
    rw [fAt_nI (by omega) (by decide), hw _ w3]
    show post (Int32.ofInt (wv (pC (pget ps j)))).toInt64 h
    rw [i2j hwi]; exact hp
  · obtain ⟨w1, w2, w3, w4, w5⟩ := w
    have e6 : cL (pget ps j) = nI (pA (pget ps j)) := by unfold cL; rw [if_neg (by omega), if_neg (by omega)]
    have e7 : cR (pget ps j) = nI (pA (pget ps j)) := by unfold cR; rw [if_neg (by omega), if_neg (by omega), if_pos w1]
    have wa := c.w2 (i := pA (pget ps j)) (by omega)
    rw [if_neg (by omega), if_neg (by omega), if_neg (by omega), if_pos w1] at hp
    rw [e6]
    refine out _ _ w2 (rowA 7 _ _ (by decide) (by decide) p7 ?_)
    rw [e7, L 2 (by decide), L 3 (by decide), L 7 (by decide)]
    refine out _ _ w2 ⟨fun q => by omega, fun _ => ⟨fun q => by omega, fun _ => ⟨fun q => by omega, fun _ => sp_T_kindOf hk hr hl hj ?_⟩⟩⟩
    rw [w4]
    unfold b_T_work_151
    by_cases c20 : pOp (pget ps j) = 20
    · rw [if_pos c20, c20]
      rw [if_pos c20] at w3
      have t := c.t01 (i := pA (pget ps j)) (by omega) w3
      rw [c20] at hp
      refine ⟨fun _ => sp_T_isTrue20 (wi_sm wa) t (fun q => ?_) (fun q => ?_), fun q => absurd q (by decide)⟩
      · rw [q] at hp; exact ⟨fun _ => hp, fun z => absurd rfl z⟩
      · rw [q] at hp; exact ⟨fun z => absurd z (by decide), fun _ => hp⟩
    · rw [if_neg c20]
      exact ⟨fun q => absurd rfl q, fun _ => sp_T_numberOf1 (by omega) wa hp⟩
  · obtain ⟨w1, w2, w3, w4, w5, w6, w7⟩ := w
    have wt := w1
    unfold two at wt
    have e6 : cL (pget ps j) = nI (pA (pget ps j)) := by unfold cL; rw [if_neg (by omega), if_neg (by omega)]
    have e7 : cR (pget ps j) = nI (pB (pget ps j)) := by unfold cR; rw [if_neg (by omega), if_neg (by omega), if_neg (by omega)]
    have wa := c.w2 (i := pA (pget ps j)) (by omega)
    have wb := c.w2 (i := pB (pget ps j)) (by omega)
    rw [if_neg (by omega), if_neg (by omega), if_neg (by omega), if_neg (by omega)] at hp
    rw [e6]
    refine out _ _ w2 (rowA 7 _ _ (by decide) (by decide) p7 ?_)
    rw [e7, L 2 (by decide), L 3 (by decide), L 7 (by decide)]
    refine out _ _ w3 ⟨fun q => by omega, fun _ => ⟨fun q => by omega, fun _ => ⟨fun q => by omega, fun _ => sp_T_kindOf hk hr hl hj ?_⟩⟩⟩
    rw [w6]
    unfold b_T_work_151
    by_cases ck : (9 ≤ pOp (pget ps j) ∧ pOp (pget ps j) ≤ 13) ∨ pOp (pget ps j) = 23 ∨ pOp (pget ps j) = 24
    · have ek : kd2 (pOp (pget ps j)) = 0 := by unfold kd2; rw [if_pos ck]
      rw [ek]
      refine ⟨fun q => absurd rfl q, fun _ => sp_T_numberOf ck wa wb (fun q => ?_) hp⟩
      have vi := val_in c.2.2.2.2 c.1 _ (show pB (pget ps j) < ps.length by omega)
      intro z
      exact w5 ⟨q, by omega, by omega⟩
    · have ek : kd2 (pOp (pget ps j)) = 1 := by unfold kd2; rw [if_neg ck]
      rw [ek]
      refine ⟨fun _ => sp_T_isTrue (by omega) (wi_sm wa) (wi_sm wb) (fun q => ?_) (fun q => ?_) (fun q => ?_), fun q => absurd q (by decide)⟩
      · unfold fit2 at w4
        rw [if_neg (by omega), if_pos q] at w4
        exact ⟨c.t01 (by omega) w4.1, c.t01 (by omega) w4.2⟩
      · rw [q] at hp; exact ⟨fun _ => hp, fun z => absurd rfl z⟩
      · rw [q] at hp; exact ⟨fun z => absurd z (by decide), fun _ => hp⟩
  · obtain ⟨w1, w2, w3, w4, w5, w6, w7, w8, w9⟩ := w
    have e6 : cL (pget ps j) = nI (pB (pget ps j)) := by unfold cL; rw [if_neg (by omega), if_pos w1]
    have e7 : cR (pget ps j) = nI (pC (pget ps j)) := by unfold cR; rw [if_neg (by omega), if_pos w1]
    have e8 : cX (pget ps j) = nI (pA (pget ps j)) := by unfold cX; rw [if_neg (by omega), if_pos w1]
    have t := c.t01 (i := pA (pget ps j)) (by omega) w5
    have wa := c.w2 (i := pA (pget ps j)) (by omega)
    rw [if_neg (by omega), if_neg (by omega), if_pos w1] at hp
    rw [e6]
    refine out _ _ w3 (rowA 7 _ _ (by decide) (by decide) p7 ?_)
    rw [e7, L 2 (by decide), L 3 (by decide), L 7 (by decide)]
    refine out _ _ w4 ⟨fun q => by omega, fun _ => ⟨fun q => by omega, fun _ => ⟨fun _ => rowA 8 _ _ (by decide) (by decide) p8 ?_, fun q => absurd w1 q⟩⟩⟩
    rw [e8]
    refine out _ _ w2 ?_
    unfold b_T_work_117
    rw [← j0, cmp_eq (wi_sm wa) (by unfold sm; omega)]
    refine ⟨fun q => ?_, fun q => ?_⟩
    · rw [if_neg (by omega)] at hp; exact hp
    · rw [if_pos (by omega)] at hp; exact hp
theorem sp_wo {k i : Nat} {vr : Vr} {wv : Nat → Int} {ps : List Pt} {post : Int64 → zH → Prop} (c : VC vr wv ps) (hk : xTm k) (hi : i < ps.length) : ∀ (m j : Nat) (h : zH), i + 1 - j ≤ m → j ≤ i + 1 → RT h k ps → (∀ x, x < vr.1 → h.1 4 x = Int32.ofInt (wv x)) → (∀ x, x < j → h.2.1 (k + 10) x = jL (vget wv ps x)) → (∀ h', h'.1 = h.1 → h'.2.2 = h.2.2 → (∀ q, q ≠ k + 10 → h'.2.1 q = h.2.1 q) → post (jL (vget wv ps i)) h') → b_T_worthOf_2 k post (m + 1) (nI i) (nI j) h := by
  have hl := c.2.2.1
  intro m
  induction m with
  | zero =>
    intro j h hm hj hr hw hv hq
    unfold b_T_worthOf_2 b_T_worthOf_33
    rw [nI_ltI (by omega) (by omega)]
    exact ⟨fun _ => sp_T_workedOut hk hr hl hi (hv i (by omega)) (hq h rfl rfl (fun _ _ => rfl)), fun q => absurd (by omega) q⟩
  | succ m ih =>
    intro j h hm hj hr hw hv hq
    unfold b_T_worthOf_2 b_T_worthOf_33
    rw [nI_ltI (by omega) (by omega)]
    refine ⟨fun q => sp_T_workedOut hk hr hl hi (hv i (by omega)) (hq h rfl rfl (fun _ _ => rfl)), fun q => sp_T_has hk hr hl (by omega) ?_⟩
    rw [show decide (j < ps.length) = true by simp; omega]
    refine ⟨fun z => absurd z (by decide), fun _ => sp_T_work c hk hr (by omega) hw hv ⟨vp_in_nI (by omega) (by decide), fun h7 g7 => ?_⟩⟩
    rw [nI_clamp' (by omega)] at g7
    rw [nI_1]
    have e1 : h7.1 = h.1 := by rw [g7]; rfl
    have e2 : h7.2.2 = h.2.2 := by rw [g7]; rfl
    have e3 : ∀ q, q ≠ k + 10 → h7.2.1 q = h.2.1 q := fun q hq9 => by rw [g7]; exact zl_ne hq9
    refine ih (j + 1) h7 (by omega) (by omega) (RT.same (h := h) (fun x _ => by rw [e1]) hr) (fun x hx => by rw [e1]; exact hw x hx) (fun x hx => ?_) (fun h' w1 w2 w3 => hq h' (w1.trans e1) (w2.trans e2) (fun q hq9 => (w3 q hq9).trans (e3 q hq9)))
    rw [g7, zl2]
    by_cases cx : x = j
    · rw [if_pos ⟨rfl, cx⟩, cx]
    · rw [if_neg (fun z => cx z.2)]; exact hv x (by omega)
theorem sp_T_worthOf {h : zH} {k i : Nat} {vr : Vr} {wv : Nat → Int} {ps : List Pt} {post : Int64 → zH → Prop} (c : VC vr wv ps) (hk : xTm k) (hi : i < ps.length) (hr : RT h k ps) (hw : ∀ x, x < vr.1 → h.1 4 x = Int32.ofInt (wv x)) (hq : ∀ h', h'.1 = h.1 → h'.2.2 = h.2.2 → (∀ q, q ≠ k + 10 → h'.2.1 q = h.2.1 q) → post (jL (vget wv ps i)) h') : wp_T_worthOf k (nI i) h post :=
  ⟨hk, i + 2, sp_wo c hk hi (i + 1) 0 h (by omega) (by omega) hr hw (fun x hx => absurd hx (by omega)) hq⟩
