/-! FEEDING -/
theorem b255 (i : Nat) (h : i < 32) : (255#32)[i] = decide (i < 8) := by
  have : ∀ i, (h : i < 32) → (255#32)[i] = decide (i < 8) := by decide
  exact this i h
theorem sshr (x : BitVec 32) (s : Nat) (hs : s ≤ 24) : (x.sshiftRight s) &&& 255#32 = (x >>> s) &&& 255#32 := by
  ext i hi
  simp only [BitVec.getElem_and, BitVec.getElem_sshiftRight, BitVec.getElem_ushiftRight, b255 i hi]
  by_cases c : i < 8
  · have : s + i < 32 := by omega
    simp [this, BitVec.getLsbD_eq_getElem]
  · simp [c]
theorem and255 (x : BitVec 32) (s : Nat) : ((x >>> s) &&& 255#32).toNat = (x.toNat >>> s) % 256 := by
  rw [BitVec.toNat_and, BitVec.toNat_ushiftRight]
  exact Nat.and_two_pow_sub_one_eq_mod _ 8
/-- a word's sign -/
def sgb (x : Int32) (q : Nat) : Nat := (x.toBitVec.toNat >>> (24 - 8 * q)) % 256
theorem sgb_lt (x : Int32) (q : Nat) : sgb x q < 256 := Nat.mod_lt _ (by decide)
theorem nI_bv {m : Nat} (h : m < 256) : (nI m).toBitVec.toNat = m := by
  show (BitVec.ofNat 32 m).toNat = m
  rw [BitVec.toNat_ofNat]
  exact Nat.mod_eq_of_lt (by omega)
theorem cls_sign {x : Int32} {q : Nat} (hq : q < 4) : (((x).toUInt32 >>> ((nI (24 - 8 * q) : Int32).toUInt32 &&& Int32.toUInt32 31)).toInt32 &&& 255) = nI (sgb x q) := by
  apply Int32.toBitVec_inj.mp
  apply BitVec.eq_of_toNat_eq
  rw [nI_bv (sgb_lt x q)]
  unfold sgb
  rw [← and255]
  rcases (show q = 0 ∨ q = 1 ∨ q = 2 ∨ q = 3 by omega) with rfl | rfl | rfl | rfl <;> rfl
theorem ref_sign {x : Int32} {q k : Nat} (hq : q < 4) (hk : k = q ∨ k = q + 4) : ((x >>> ((24 - (8 * (nI k &&& 3))) &&& 31)) &&& 255) = nI (sgb x q) := by
  apply Int32.toBitVec_inj.mp
  apply BitVec.eq_of_toNat_eq
  rw [nI_bv (sgb_lt x q)]
  unfold sgb
  rw [← and255, ← sshr _ _ (by omega)]
  rw [Int32.toBitVec_and, Int32.toBitVec_shiftRight]
  rcases (show q = 0 ∨ q = 1 ∨ q = 2 ∨ q = 3 by omega) with rfl | rfl | rfl | rfl <;> rcases hk with rfl | rfl <;> rfl
def fd : List Nat → (Nat → Nat) → Nat → Option ((Nat → Nat) × Nat)
  | [], sg, n => some (sg, n)
  | c :: l, sg, n => if c = 0 then fd l sg n else if 32 ≤ c ∧ c ≤ 126 ∧ n < 400 then fd l (upD sg n c) (n + 1) else none
def sfx (f : Nat → Nat) (q : Nat) : Nat → List Nat
  | 0 => []
  | r + 1 => f q :: sfx f (q + 1) r
def F6 (n0 : Nat) (h h' : zH) : Prop := (∀ c i, ¬ (c = 6 ∧ n0 ≤ i) → h'.1 c i = h.1 c i) ∧ h'.2 = h.2
theorem F6.tr {n0 : Nat} {h h1 h2 : zH} (a : F6 n0 h h1) (b : F6 n0 h1 h2) : F6 n0 h h2 := ⟨fun c i hc => (b.1 c i hc).trans (a.1 c i hc), b.2.trans a.2⟩
def shf (q : Nat) : Int32 := if q < 4 then nI (24 - 8 * q) else -8
theorem shf_s {q : Nat} (h : q < 4) : shf q + (-8) = shf (q + 1) := by
  have : ∀ q, q < 4 → shf q + (-8) = shf (q + 1) := by decide
  exact this q h
set_option maxHeartbeats 1000000 in
theorem sp_aw {x : Int32} {n0 : Nat} {post : Int32 → zH → Prop} : ∀ (r q n : Nat) (sg : Nat → Nat) (h : zH), q + r = 4 → n ≤ 400 → n0 ≤ n → (∀ i, i < n → h.1 6 i = nI (sg i)) →
    (∀ h', fd (sfx (sgb x) q r) sg n = none → F6 n0 h h' → post (-1) h') → (∀ sg' n' h', fd (sfx (sgb x) q r) sg n = some (sg', n') → F6 n0 h h' → (∀ i, i < n' → h'.1 6 i = nI (sg' i)) → n' ≤ 400 → n ≤ n' → post (nI n') h') → b_A_appendWord_6 post (r + 1) x (nI n) (shf q) h := by
  intro r
  induction r with
  | zero =>
    intro q n sg h hq hn h0 hs hno hyes
    have e4 : q = 4 := by omega
    subst e4
    unfold b_A_appendWord_6
    exact ⟨fun _ => hyes sg n h rfl ⟨fun _ _ _ => rfl, rfl⟩ hs hn (Nat.le_refl _), fun z => absurd (by decide) z⟩
  | succ r ih =>
    intro q n sg h hq hn h0 hs hno hyes
    have hq4 : q < 4 := by omega
    have es : shf q = nI (24 - 8 * q) := by unfold shf; rw [if_pos hq4]
    have hb := sgb_lt x q
    have nn : ¬ shf q < 0 := by rw [es]; exact nI_pos (by omega)
    unfold b_A_appendWord_6 b_A_appendWord_67 b_A_appendWord_54
    rw [shf_s hq4]
    rw [es, cls_sign hq4, ← es]
    refine ⟨fun z => absurd z nn, fun _ => ?_⟩
    rw [nI_lit (d := 0) (by omega) (by decide), nI_lt_lit (d := 32) (by omega) (by decide), lit_lt_nI (d := 126) (by omega) (by decide), nI_lt_lit (d := 400) (by omega) (by decide)]
    have no : ¬ sgb x q = 0 → ¬ (32 ≤ sgb x q ∧ sgb x q ≤ 126 ∧ n < 400) → post (-1) h := by
      intro z1 z2
      refine hno h ?_ ⟨fun _ _ _ => rfl, rfl⟩
      show fd (sgb x q :: sfx (sgb x) (q + 1) r) sg n = none
      rw [fd, if_neg z1, if_neg z2]
    refine ⟨fun z1 => ⟨fun z2 => no z1 (by omega), fun z2 => ⟨fun z3 => no z1 (by omega), fun z3 => ⟨fun z4 => absurd z4 (nI_pos (by omega)), fun _ => ⟨fun z4 => ⟨vp_in_nI (by omega) (by decide), fun h1 g1 => ?_⟩, fun z4 => no z1 (by omega)⟩⟩⟩⟩, fun z1 => ?_⟩
    · rw [nI_clamp' (by omega)] at g1
      rw [nI_1]
      have ef : fd (sfx (sgb x) q (r + 1)) sg n = fd (sfx (sgb x) (q + 1) r) (upD sg n (sgb x q)) (n + 1) := by
        show fd (sgb x q :: sfx (sgb x) (q + 1) r) sg n = _
        rw [fd, if_neg z1, if_pos ⟨by omega, by omega, z4⟩]
      have f1 : F6 n0 h h1 := by
        refine ⟨fun c i hc => ?_, by rw [g1]; rfl⟩
        rw [g1, zi1, if_neg (fun z => hc ⟨z.1, by omega⟩)]
      rw [ef] at hno hyes
      refine ih (q + 1) (n + 1) (upD sg n (sgb x q)) h1 (by omega) (by omega) (by omega) (fun i hi => ?_) (fun h' c f => hno h' c (f1.tr f)) (fun sg' n' h' c f s l m => hyes sg' n' h' c (f1.tr f) s l (by omega))
      rw [g1, zi1]
      by_cases z : i = n
      · rw [if_pos ⟨rfl, z⟩, z, upD_eq]
      · rw [if_neg (fun y => z y.2), upD_ne z]; exact hs i (by omega)
    · have ef : fd (sfx (sgb x) q (r + 1)) sg n = fd (sfx (sgb x) (q + 1) r) sg n := by
        show fd (sgb x q :: sfx (sgb x) (q + 1) r) sg n = _
        rw [fd, if_pos z1]
      rw [ef] at hno hyes
      exact ih (q + 1) n sg h (by omega) hn h0 hs hno hyes
theorem sp_A_appendWord {x : Int32} {n0 n : Nat} {sg : Nat → Nat} {h : zH} {post : Int32 → zH → Prop} (hn : n ≤ 400) (h0 : n0 ≤ n) (hs : ∀ i, i < n → h.1 6 i = nI (sg i))
    (hno : ∀ h', fd (sfx (sgb x) 0 4) sg n = none → F6 n0 h h' → post (-1) h') (hyes : ∀ sg' n' h', fd (sfx (sgb x) 0 4) sg n = some (sg', n') → F6 n0 h h' → (∀ i, i < n' → h'.1 6 i = nI (sg' i)) → n' ≤ 400 → n ≤ n' → post (nI n') h') : wp_A_appendWord x (nI n) h post :=
  ⟨5, sp_aw 4 0 n sg h (by omega) hn h0 hs hno hyes⟩
theorem fd_app : ∀ (l1 l2 : List Nat) (sg : Nat → Nat) (n : Nat), fd (l1 ++ l2) sg n = match fd l1 sg n with
    | none => none
    | some q => fd l2 q.1 q.2
  | [], l2, sg, n => rfl
  | c :: l1, l2, sg, n => by
    show fd (c :: (l1 ++ l2)) sg n = _
    rw [fd, fd]
    by_cases z : c = 0
    · rw [if_pos z, if_pos z]; exact fd_app l1 l2 sg n
    · rw [if_neg z, if_neg z]
      by_cases y : 32 ≤ c ∧ c ≤ 126 ∧ n < 400
      · rw [if_pos y, if_pos y]; exact fd_app l1 l2 _ _
      · rw [if_neg y, if_neg y]
def cn : List Nat → Nat
  | [] => 0
  | c :: l => (if c = 0 then 0 else 1) + cn l
def okS : List Nat → Prop
  | [] => True
  | c :: l => (c = 0 ∨ (32 ≤ c ∧ c ≤ 126)) ∧ okS l
theorem fd_none : ∀ (l : List Nat) (sg : Nat → Nat) (n : Nat), n ≤ 400 → (¬ okS l ∨ 400 < n + cn l) → fd l sg n = none
  | [], sg, n, hn, h => by
    rcases h with z | z
    · exact absurd trivial z
    · simp only [cn] at z; omega
  | c :: l, sg, n, hn, h => by
    rw [fd]
    simp only [okS, cn] at h
    by_cases z : c = 0
    · rw [if_pos z]
      rw [if_pos z] at h
      refine fd_none l sg n hn ?_
      rcases h with y | y
      · exact Or.inl (fun w => y ⟨Or.inl z, w⟩)
      · exact Or.inr (by omega)
    · rw [if_neg z]
      rw [if_neg z] at h
      by_cases y : 32 ≤ c ∧ c ≤ 126 ∧ n < 400
      · rw [if_pos y]
        refine fd_none l _ (n + 1) (by omega) ?_
        rcases h with w | w
        · exact Or.inl (fun v => w ⟨Or.inr ⟨y.1, y.2.1⟩, v⟩)
        · exact Or.inr (by omega)
      · rw [if_neg y]
/-- the eight signs -/
def s8 (a b : Int32) (k : Nat) : Nat := if k < 4 then sgb a k else sgb b (k - 4)
theorem s8_lt (a b : Int32) (k : Nat) : s8 a b k < 256 := by unfold s8; split <;> exact sgb_lt _ _
theorem sfx8 (a b : Int32) : sfx (s8 a b) 0 8 = sfx (sgb a) 0 4 ++ sfx (sgb b) 0 4 := rfl
theorem sp_M_sign {a b : Int32} {k : Nat} {h : zH} {post : Int32 → zH → Prop} (hk : k < 8) (hp : post (nI (s8 a b k)) h) : wp_M_sign a b (nI k) h post := by
  unfold wp_M_sign b_M_sign_10
  unfold s8 at hp
  rw [lit_le_nI (d := 4) (by omega) (by decide)]
  refine ⟨fun z => ?_, fun z => ?_⟩
  · rw [if_neg (by omega)] at hp
    rw [ref_sign (q := k - 4) (by omega) (by omega)]; exact hp
  · rw [if_pos (by omega)] at hp
    rw [ref_sign (q := k) (by omega) (by omega)]; exact hp
theorem sp_f10 {a b : Int32} {post : Int32 → zH → Prop} {n : Nat} {h : zH} (hn : n ≤ 400) (e6 : h.1 39 6 = nI n) : ∀ (r k c : Nat), k + r = 8 → c ≤ k →
    (¬ okS (sfx (s8 a b) k r) ∨ 400 < n + c + cn (sfx (s8 a b) k r) → post (-1) h) → (okS (sfx (s8 a b) k r) → n + c + cn (sfx (s8 a b) k r) ≤ 400 → ∃ m, b_M_feed_83 post m a b 0 h) → b_M_feed_10 post (r + 1) a b (nI c) (nI k) h := by
  intro r
  induction r with
  | zero =>
    intro k c hk hc hno hyes
    have e8 : k = 8 := by omega
    subst e8
    unfold b_M_feed_10
    rw [e6, nI_add, nI_le_lit (d := 400) (by omega) (by decide)]
    refine ⟨fun _ => ⟨fun z => hyes trivial (by simp only [sfx, cn]; omega), fun z => hno (Or.inr (by simp only [sfx, cn]; omega))⟩, fun z => absurd (by decide) z⟩
  | succ r ih =>
    intro k c hk hc hno hyes
    have hb := s8_lt a b k
    unfold b_M_feed_10 b_M_feed_45 b_M_feed_47 b_M_feed_58
    rw [lit_le_nI (d := 8) (by omega) (by decide)]
    refine ⟨fun z => by omega, fun _ => sp_M_sign (by omega) ?_⟩
    rw [nI_lit (d := 0) (by omega) (by decide), nI_lt_lit (d := 32) (by omega) (by decide), nI_le_lit (d := 126) (by omega) (by decide), nI_1 c, nI_1 k]
    have es : sfx (s8 a b) k (r + 1) = s8 a b k :: sfx (s8 a b) (k + 1) r := rfl
    rw [es] at hno hyes
    simp only [okS, cn] at hno hyes
    have no : ¬ (s8 a b k = 0 ∨ (32 ≤ s8 a b k ∧ s8 a b k ≤ 126)) → post (-1) h := fun z => hno (Or.inl (fun y => z y.1))
    have one : ¬ s8 a b k = 0 → 32 ≤ s8 a b k ∧ s8 a b k ≤ 126 → b_M_feed_10 post (r + 1) a b (nI (c + 1)) (nI (k + 1)) h := by
      intro z y
      rw [if_neg z] at hno hyes
      exact ih (k + 1) (c + 1) (by omega) (by omega) (fun w => hno (by
        rcases w with w | w
        · exact Or.inl (fun v => w v.2)
        · exact Or.inr (by omega))) (fun w1 w2 => hyes ⟨Or.inr y, w1⟩ (by omega))
    refine ⟨fun z => ⟨fun q => absurd z q, fun _ => ?_⟩, fun z => ⟨fun q => no (by omega), fun z2 => ⟨fun z3 => ⟨fun _ => one z (by omega), fun q => absurd q z⟩, fun q => no (by omega)⟩⟩⟩
    rw [if_pos z] at hno hyes
    rw [show nI c + 0 = nI c from nI_add c 0]
    exact ih (k + 1) c (by omega) (by omega) (fun w => hno (by
      rcases w with w | w
      · exact Or.inl (fun v => w v.2)
      · exact Or.inr (by omega))) (fun w1 w2 => hyes ⟨Or.inl z, w1⟩ (by omega))
def F43 (h h' : zH) : Prop := (∀ c i, ¬ (c = 43 ∨ (c = 39 ∧ i = 6)) → h'.1 c i = h.1 c i) ∧ h'.2 = h.2
theorem F43.tr {h h1 h2 : zH} (a : F43 h h1) (b : F43 h1 h2) : F43 h h2 := ⟨fun c i hc => (b.1 c i hc).trans (a.1 c i hc), b.2.trans a.2⟩
theorem sp_f83 {a b : Int32} {post : Int32 → zH → Prop} : ∀ (r k n : Nat) (sg : Nat → Nat) (h : zH), k + r = 8 → n + cn (sfx (s8 a b) k r) ≤ 400 → okS (sfx (s8 a b) k r) → h.1 39 6 = nI n → (∀ i, i < n → h.1 43 i = nI (sg i)) →
    (∀ sg' n' h', fd (sfx (s8 a b) k r) sg n = some (sg', n') → F43 h h' → h'.1 39 6 = nI n' → (∀ i, i < n' → h'.1 43 i = nI (sg' i)) → post (nI n') h') → b_M_feed_83 post (r + 1) a b (nI k) h := by
  intro r
  induction r with
  | zero =>
    intro k n sg h hk hn ho e6 hs hq
    have e8 : k = 8 := by omega
    subst e8
    unfold b_M_feed_83
    rw [e6]
    exact ⟨fun _ => hq sg n h rfl ⟨fun _ _ _ => rfl, rfl⟩ e6 hs, fun z => absurd (by decide) z⟩
  | succ r ih =>
    intro k n sg h hk hn ho e6 hs hq
    have hb := s8_lt a b k
    have es : sfx (s8 a b) k (r + 1) = s8 a b k :: sfx (s8 a b) (k + 1) r := rfl
    rw [es] at hn ho hq
    simp only [okS, cn] at hn ho
    unfold b_M_feed_83 b_M_feed_128
    rw [lit_le_nI (d := 8) (by omega) (by decide)]
    refine ⟨fun z => by omega, fun _ => sp_M_sign (by omega) ?_⟩
    rw [nI_lit (d := 0) (by omega) (by decide), nI_1]
    refine ⟨fun z => ?_, fun z => ?_⟩
    · rw [if_neg z] at hn
      have y : 32 ≤ s8 a b k ∧ s8 a b k ≤ 126 := by omega
      have ef : fd (s8 a b k :: sfx (s8 a b) (k + 1) r) sg n = fd (sfx (s8 a b) (k + 1) r) (upD sg n (s8 a b k)) (n + 1) := by
        rw [fd, if_neg z, if_pos ⟨y.1, y.2, by omega⟩]
      rw [ef] at hq
      rw [e6]
      refine ⟨vp_in_nI (by omega) (by decide), fun h3 g3 h4 g4 => ?_⟩
      rw [nI_clamp' (by omega)] at g3
      have e6' : h3.1 39 6 = nI n := by rw [g3]; simp [zi1]; exact e6
      rw [e6', nI_1] at g4
      have f4 : F43 h h4 := by
        refine ⟨fun c i hc => ?_, by rw [g4, g3]; rfl⟩
        rw [g4, g3, zi1, if_neg (fun w => hc (Or.inr w)), zi1, if_neg (fun w => hc (Or.inl w.1))]
      refine ih (k + 1) (n + 1) (upD sg n (s8 a b k)) h4 (by omega) (by omega) ho.2 (by rw [g4]; simp [zi1]) (fun i hi => ?_) (fun sg' n' h' c f e s => hq sg' n' h' c (f4.tr f) e s)
      rw [g4, zi1, if_neg (by omega), g3, zi1]
      by_cases w : i = n
      · rw [if_pos ⟨rfl, w⟩, w, upD_eq]
      · rw [if_neg (fun v => w v.2), upD_ne w]; exact hs i (by omega)
    · rw [if_pos z] at hn
      have ef : fd (s8 a b k :: sfx (s8 a b) (k + 1) r) sg n = fd (sfx (s8 a b) (k + 1) r) sg n := by rw [fd, if_pos z]
      rw [ef] at hq
      exact ih (k + 1) n sg h (by omega) (by omega) ho.2 e6 hs hq
theorem fd_rng : ∀ (l : List Nat) (sg : Nat → Nat) (n : Nat) (sg' : Nat → Nat) (n' : Nat), (∀ i, i < n → 32 ≤ sg i ∧ sg i ≤ 126) → fd l sg n = some (sg', n') → ∀ i, i < n' → 32 ≤ sg' i ∧ sg' i ≤ 126
  | [], sg, n, sg', n', hs, h => by rw [fd] at h; cases h; exact hs
  | c :: l, sg, n, sg', n', hs, h => by
    rw [fd] at h
    by_cases z : c = 0
    · rw [if_pos z] at h; exact fd_rng l sg n sg' n' hs h
    · rw [if_neg z] at h
      by_cases y : 32 ≤ c ∧ c ≤ 126 ∧ n < 400
      · rw [if_pos y] at h
        refine fd_rng l _ (n + 1) sg' n' (fun i hi => ?_) h
        by_cases w : i = n
        · rw [w, upD_eq]; omega
        · rw [upD_ne w]; exact hs i (by omega)
      · rw [if_neg y] at h; cases h
set_option maxHeartbeats 1000000 in
theorem c_feed {h : zH} {a b : Int32} {K : Int32 → Int32 → zH → Prop} (hI : Inv h) (hK : ∀ r h', Inv h' → K r r h') : wp_R_feed a b h (fun r1 h1 => wp_M_feed a b h1 (fun r2 h2 => K r1 r2 h2)) := by
  obtain ⟨n, sg, vr, wv, ps, hS⟩ := hI
  obtain ⟨a1, a2, a3, a4, a5, a6, a7, a8, a9, a10, a11, a12, a13⟩ := id hS
  have hn := a1.2.1
  have kt := xTm_ge a4.1
  have app : fd (sfx (s8 a b) 0 8) sg n = match fd (sfx (sgb a) 0 4) sg n with
    | none => none
    | some q => fd (sfx (sgb b) 0 4) q.1 q.2 := by rw [sfx8, fd_app]
  -- the reference refuses
  have refN : ∀ h1, F6 n h h1 → fd (sfx (s8 a b) 0 8) sg n = none → wp_M_feed a b h1 (fun r2 h2 => K (-1) r2 h2) := by
    intro h1 f1 he
    have S1 : InvS h1 n sg vr wv ps := by
      have ec : ∀ c, c ≠ 6 → h1.1 c = h.1 c := fun c hc => funext fun i => f1.1 c i (fun z => hc z.1)
      refine ⟨⟨by rw [ec 5 (by decide)]; exact a1.1, hn, fun i hi => ⟨by rw [f1.1 6 i (by omega)]; exact (a1.2.2 i hi).1, (a1.2.2 i hi).2⟩⟩, ?_, fun i hi => by rw [ec 4 (by decide)]; exact a3 i hi, by rw [f1.2]; exact a4, ?_, a6, by rw [ec 39 (by decide)]; exact a7, fun i hi => by rw [ec 43 (by decide)]; exact a8 i hi, by rw [ec 39 (by decide)]; exact a9, fun j hj => by rw [ec 40 (by decide), ec 41 (by decide)]; exact a10 j hj, fun i hi => by rw [ec 42 (by decide)]; exact a11 i hi, by rw [ec 39 (by decide)]; exact a12, RMt.same (h := h) (fun c i h1 h2 _ => ⟨by rw [ec c (by omega)], by rw [f1.2]⟩) a13⟩
      · unfold RV; rw [ec 1 (by decide), ec 2 (by decide), ec 3 (by decide)]; exact a2
      · rw [f1.2]; exact RT.same (h := h) (fun j hj => ec _ (by omega)) a5
    unfold wp_M_feed
    intro h7 g7
    have S7 : InvS h7 n sg vr wv ps := by rw [g7]; exact S1.t0
    have e6 : h7.1 39 6 = nI n := S7.2.2.2.2.2.2.1
    refine ⟨9, sp_f10 hn e6 8 0 0 (by omega) (by omega) (fun _ => hK _ _ ⟨n, sg, vr, wv, ps, S7⟩) (fun y1 y2 => ?_)⟩
    refine ⟨9, sp_f83 8 0 n sg h7 (by omega) (by omega) y1 e6 S7.2.2.2.2.2.2.2.1 (fun sg' n' h' c _ _ _ => ?_)⟩
    rw [he] at c; cases c
  unfold wp_R_feed wp_A_append b_R_feed_23 b_A_append_22 b_A_append_32 b_A_append_42
  rw [a1.1]
  refine sp_A_appendWord (sg := sg) hn (Nat.le_refl n) (fun i hi => (a1.2.2 i hi).1) (fun h1 c f1 => ?_) (fun sg1 n1 h1 c1 f1 s1 l1 m1 => ?_)
  · rw [c] at app
    exact ⟨fun _ => ⟨fun _ => ⟨fun _ => ⟨rfl, fun _ => refN h1 f1 app, fun z => absurd rfl z⟩, fun z => absurd rfl z⟩, fun z => absurd rfl z⟩, fun z => absurd rfl z⟩
  · rw [c1] at app
    simp only at app
    refine ⟨fun z => absurd z (nI_m1 (by omega)), fun _ => ?_⟩
    refine sp_A_appendWord (sg := sg1) (n0 := n) l1 m1 s1 (fun h2 c f2 => ?_) (fun sg2 n2 h2 c2 f2 s2 l2 m2 => ?_)
    · rw [c] at app
      exact ⟨fun _ => ⟨fun _ => ⟨rfl, fun _ => refN h2 (f1.tr f2) app, fun z => absurd rfl z⟩, fun z => absurd rfl z⟩, fun z => absurd rfl z⟩
    · rw [c2] at app
      have ne : ¬ nI n2 = (-1) := nI_m1 (by omega)
      refine ⟨fun z => absurd z ne, fun _ h3 g3 => ⟨fun z => absurd z ne, fun _ => ⟨rfl, fun z => absurd z (by decide), fun _ => ?_⟩⟩⟩
      have f12 := f1.tr f2
      have e5 : h3.1 5 1 = nI n2 := by rw [g3]; simp [zi1]
      have o3 : ∀ c, c ≠ 5 → c ≠ 6 → h3.1 c = h.1 c := fun c n5 n6 => by rw [g3, zi_ne n5]; exact funext fun i => f12.1 c i (fun z => n6 z.1)
      have r3 : h3.2 = h.2 := by rw [g3]; exact f12.2
      rw [e5]
      unfold wp_M_feed
      intro h7 g7
      have e6 : h7.1 39 6 = nI n := by rw [g7]; simp [zi1]; rw [o3 39 (by decide) (by decide)]; exact a7
      have s7 : ∀ i, i < n → h7.1 43 i = nI (sg i) := fun i hi => by rw [g7, zi_ne (by decide), o3 43 (by decide) (by decide)]; exact a8 i hi
      refine ⟨9, sp_f10 hn e6 8 0 0 (by omega) (by omega) (fun w => ?_) (fun y1 y2 => ?_)⟩
      · have := fd_none _ sg n hn (by
          rcases w with w | w
          · exact Or.inl w
          · exact Or.inr (by omega))
        rw [app] at this; cases this
      · refine ⟨9, sp_f83 8 0 n sg h7 (by omega) (by omega) y1 e6 s7 (fun sg' n' h8 c f8 e8 s8' => ?_)⟩
        rw [app] at c
        cases c
        refine hK _ _ ⟨n2, sg2, vr, wv, ps, ?_⟩
        have rg := fd_rng _ sg n sg2 n2 (fun i hi => (a1.2.2 i hi).2) app
        have o8 : ∀ c, c ≠ 5 → c ≠ 6 → c ≠ 39 → c ≠ 43 → h8.1 c = h.1 c := by
          intro c n5 n6 n39 n43
          funext i
          rw [f8.1 c i (by omega), g7, zi_ne n39, o3 c n5 n6]
        have s9 : ∀ j, j ≠ 0 → j ≠ 6 → h8.1 39 j = h.1 39 j := by
          intro j n0 n6
          rw [f8.1 39 j (by omega), g7, zi1, if_neg (by omega), o3 39 (by decide) (by decide)]
        have r8 : h8.2 = h.2 := by rw [f8.2, g7]; exact r3
        have c5 : h8.1 5 1 = nI n2 := by rw [f8.1 5 1 (by omega), g7, zi_ne (by decide)]; exact e5
        have c6 : ∀ i, i < n2 → h8.1 6 i = nI (sg2 i) := by
          intro i hi
          rw [f8.1 6 i (by omega), g7, zi_ne (by decide), g3, zi_ne (by decide)]; exact s2 i hi
        refine ⟨⟨c5, l2, fun i hi => ⟨c6 i hi, rg i hi⟩⟩, ?_, fun i hi => by rw [o8 4 (by decide) (by decide) (by decide) (by decide)]; exact a3 i hi, by rw [r8]; exact a4, ?_, a6, e8, s8', by rw [s9 1 (by decide) (by decide)]; exact a9, fun j hj => by rw [o8 40 (by decide) (by decide) (by decide) (by decide), o8 41 (by decide) (by decide) (by decide) (by decide)]; exact a10 j hj, fun i hi => by rw [o8 42 (by decide) (by decide) (by decide) (by decide)]; exact a11 i hi, by rw [s9 23 (by decide) (by decide)]; exact a12, RMt.same (h := h) (fun c i h1 h2 _ => ⟨by rw [o8 c (by omega) (by omega) (by omega) (by omega)], by rw [r8]⟩) a13⟩
        · unfold RV; rw [o8 1 (by decide) (by decide) (by decide) (by decide), o8 2 (by decide) (by decide) (by decide) (by decide), o8 3 (by decide) (by decide) (by decide) (by decide)]; exact a2
        · rw [r8]; exact RT.same (h := h) (fun j hj => o8 _ (by omega) (by omega) (by omega) (by omega)) a5
