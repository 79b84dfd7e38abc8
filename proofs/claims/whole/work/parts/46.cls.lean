/-! THE CLASS'S TOKENS -/
def RS (h : zH) (sg : Nat → Nat) (n : Nat) : Prop := h.1 5 1 = nI n ∧ n ≤ 400 ∧ ∀ i, i < n → h.1 6 i = nI (sg i) ∧ 32 ≤ sg i ∧ sg i ≤ 126
theorem RS.same {h h' : zH} {sg : Nat → Nat} {n : Nat} (e : h'.1 5 = h.1 5) (e2 : h'.1 6 = h.1 6) (a : RS h sg n) : RS h' sg n := by
  unfold RS; rw [e, e2]; exact a
theorem RS.f30 {h h' : zH} {sg : Nat → Nat} {n : Nat} (f : fr [30] h h') (a : RS h sg n) : RS h' sg n := a.same (f 5 (by decide)).1 (f 6 (by decide)).1
def cs (sg : Nat → Nat) (n i : Nat) : Int32 := if i < n then nI (sg i) else -1
theorem sign_cs {h : zH} {sg : Nat → Nat} {n i : Nat} (hR : RS h sg n) (hi : i < 2147483648) : fSign h (nI i) = cs sg n i := by
  unfold fSign cs
  have h4 := hR.2.1
  rw [if_neg (nI_pos hi), hR.1]
  by_cases c : i < n
  · rw [if_pos c, if_neg (by rw [nI_leI (by omega) hi]; omega), fAt_nI (by omega) (by decide)]
    exact (hR.2.2 i c).1
  · rw [if_neg c, if_pos (by rw [nI_leI (by omega) hi]; omega)]
theorem cs_nI {h : zH} {sg : Nat → Nat} {n i d : Nat} (hR : RS h sg n) (h0 : 0 < d) (hd : d < 2147483648) : cs sg n i = nI d ↔ sgn sg n i = d := by
  unfold cs sgn
  by_cases c : i < n
  · rw [if_pos c, if_pos c]
    have := hR.2.2 i c
    exact nI_eq (by omega) hd
  · rw [if_neg c, if_neg c]
    exact ⟨fun q => absurd q.symm (nI_m1 hd), fun q => by omega⟩
theorem cs_m1 {h : zH} {sg : Nat → Nat} {n i : Nat} (hR : RS h sg n) : cs sg n i = -1 ↔ n ≤ i := by
  unfold cs
  by_cases c : i < n
  · rw [if_pos c]
    have := hR.2.2 i c
    exact ⟨fun q => absurd q (nI_m1 (by omega)), fun q => by omega⟩
  · rw [if_neg c]
    exact ⟨fun _ => by omega, fun _ => rfl⟩
theorem sgn_lt {h : zH} {sg : Nat → Nat} {n i : Nat} (hR : RS h sg n) : sgn sg n i ≤ 126 := by
  unfold sgn
  split
  · rename_i c; exact (hR.2.2 i c).2.2
  · omega
theorem nI_sub {a b : Nat} (h : b ≤ a) : nI a - nI b = nI (a - b) := by
  have : nI a = nI (a - b) + nI b := by rw [nI_add, Nat.sub_add_cancel h]
  rw [this]
  exact Int32.add_sub_cancel _ _
theorem sp_isDigit {h : zH} {sg : Nat → Nat} {n i : Nat} {h0 : zH} {post : Int32 → zH → Prop} (hR : RS h sg n) (hp : post (b01 (isDg (sgn sg n i))) h0) : wp_R_isDigit (cs sg n i) h0 post := by
  unfold wp_R_isDigit b_R_isDigit_16 b_R_isDigit_17
  by_cases c : i < n
  · have hs := hR.2.2 i c
    have e1 : cs sg n i = nI (sg i) := by unfold cs; rw [if_pos c]
    have e2 : sgn sg n i = sg i := by unfold sgn; rw [if_pos c]
    rw [e1]
    rw [e2] at hp
    refine ⟨fun q => ⟨rfl, ?_⟩, fun q => ⟨fun q2 => ⟨rfl, ?_⟩, fun q2 => ⟨rfl, ?_⟩⟩⟩
    · have q := (nI_lt_lit (d := 48) (by omega) (by decide)).mp q
      have : isDg (sg i) = false := by unfold isDg; simp; omega
      rw [this] at hp; exact hp
    · have q2 := (lit_lt_nI (d := 57) (by omega) (by decide)).mp q2
      have : isDg (sg i) = false := by unfold isDg; simp; omega
      rw [this] at hp; exact hp
    · have q : ¬ sg i < 48 := fun z => q ((nI_lt_lit (d := 48) (by omega) (by decide)).mpr z)
      have q2 : ¬ 57 < sg i := fun z => q2 ((lit_lt_nI (d := 57) (by omega) (by decide)).mpr z)
      have : isDg (sg i) = true := by unfold isDg; simp; omega
      rw [this] at hp; exact hp
  · have e1 : cs sg n i = -1 := by unfold cs; rw [if_neg c]
    have e2 : sgn sg n i = 0 := by unfold sgn; rw [if_neg c]
    rw [e1]
    rw [e2] at hp
    exact ⟨fun _ => ⟨rfl, hp⟩, fun q => absurd (by decide) q⟩
theorem skp_rng {sg : Nat → Nat} {n : Nat} : ∀ (k i : Nat), i ≤ skp sg n k i ∧ skp sg n k i ≤ max i n
  | 0, i => by unfold skp; omega
  | k + 1, i => by
    unfold skp
    by_cases c : i < n ∧ sg i = 32
    · rw [if_pos c]
      have := skp_rng (sg := sg) (n := n) k (i + 1)
      omega
    · rw [if_neg c]; omega
theorem sp_skip {sg : Nat → Nat} {n : Nat} {post : zH → Prop} : ∀ (k i : Nat) (h : zH), n - i ≤ k → RS h sg n → h.1 30 1 = nI i → i ≤ 1000 → (∀ h', fr [30] h h' → h'.1 30 1 = nI (skp sg n k i) → post h') → b_K_skipSpaces_0 post (k + 1) h := by
  intro k
  induction k with
  | zero =>
    intro i h hk hR hp hi hq
    unfold b_K_skipSpaces_0 b_K_skipSpaces_43
    have h4 := hR.2.1
    rw [hR.1, hp]
    refine ⟨fun _ => hq h fr.rf hp, fun q => ?_⟩
    rw [nI_leI (by omega) (by omega)] at q
    omega
  | succ k ih =>
    intro i h hk hR hp hi hq
    have h4 := hR.2.1
    unfold b_K_skipSpaces_0 b_K_skipSpaces_43
    rw [hR.1, hp, nI_leI (by omega) (by omega)]
    refine ⟨fun q => hq h fr.rf (by rw [hp, skp, if_neg (by omega)]), fun q => sp_A_signAt ?_⟩
    rw [sign_cs hR (by omega), show (32 : Int32) = nI 32 from rfl, cs_nI hR (by decide) (by decide)]
    have es : sgn sg n i = sg i := by unfold sgn; rw [if_pos (by omega)]
    rw [es]
    refine ⟨fun z => hq h fr.rf (by rw [hp, skp, if_neg (by omega)]), fun z h3 e3 => ?_⟩
    rw [hp, nI_1] at e3
    have f3 : fr [30] h h3 := by rw [e3]; exact fr.rf.zi (by simp)
    refine ih (i + 1) h3 (by omega) (hR.f30 f3) (by rw [e3]; simp [zi1]) (by omega) ?_
    intro h' f' p'
    refine hq h' (f3.tr f') ?_
    rw [p', skp, if_pos (show i < n ∧ sg i = 32 by omega)]
/-- digits -/
theorem dgE_ge {sg : Nat → Nat} {n : Nat} : ∀ (k i : Nat), i ≤ dgE sg n k i ∧ dgE sg n k i ≤ max i n
  | 0, i => by unfold dgE; omega
  | k + 1, i => by
    unfold dgE
    by_cases c : i < n ∧ isDg (sg i) = true
    · rw [if_pos c]
      have := dgE_ge (sg := sg) (n := n) k (i + 1)
      omega
    · rw [if_neg c]; omega
theorem isDg_b {a : Nat} (h : isDg a = true) : 48 ≤ a ∧ a ≤ 57 := by unfold isDg at h; simp at h; exact h
theorem dgV_lt {sg : Nat → Nat} {i : Nat} : ∀ (c : Nat), (∀ j, j < c → isDg (sg (i + j)) = true) → dgV sg i c < 10 ^ c
  | 0, _ => by unfold dgV; decide
  | c + 1, h => by
    have ih := dgV_lt (sg := sg) (i := i) c (fun j hj => h j (by omega))
    have := isDg_b (h c (by omega))
    unfold dgV
    rw [Nat.pow_succ]
    omega
def dgF (sg : Nat → Nat) (i j : Nat) : Prop := j - i ≤ 10 ∧ dgV sg i (j - i) ≤ 2000000000
theorem p10 {c : Nat} (h : c ≤ 10) : 10 ^ c ≤ 10000000000 := by
  have : 10 ^ c ≤ 10 ^ 10 := Nat.pow_le_pow_right (by decide) h
  omega
theorem sp_rd79 {sg : Nat → Nat} {i c : Nat} {l1 : Int64} {h : zH} {post : zH → Prop} (hc : c ≤ 1000) (hd : ∀ j, j < c → isDg (sg (i + j)) = true) (hv : c ≤ 10 → l1 = jL (dgV sg i c)) (hp : h.1 30 1 = nI (i + c))
    (hy : dgF sg i (i + c) → ∀ h', fr [30] h h' → h'.1 30 1 = nI (i + c) → h'.1 30 3 = h.1 30 3 → h'.1 30 2 = 2 → h'.1 30 4 = nI (dgV sg i c) → post h')
    (hn : ¬ dgF sg i (i + c) → ∀ h', fr [30] h h' → h'.1 30 1 = nI (i + c) → h'.1 30 3 = h.1 30 3 → h'.1 30 2 = 0 → post h') : b_K_readDigits_79 post l1 (nI c) h := by
  unfold b_K_readDigits_79 b_K_readDigits_97
  have ec : i + c - i = c := by omega
  unfold dgF at hy hn
  rw [ec] at hy hn
  have no : ¬ (c ≤ 10 ∧ dgV sg i c ≤ 2000000000) → b_K_readDigits_98 post l1 0 h := by
    intro z
    unfold b_K_readDigits_98 b_K_readDigits_111 b_K_readDigits_126
    refine ⟨fun _ h3 e3 => ⟨fun _ h2 e2 => ?_, fun q => absurd rfl q⟩, fun q => absurd rfl q⟩
    refine hn z h2 (by rw [e2, e3]; exact (fr.rf.zi (by simp)).zi (by simp)) ?_ ?_ ?_
    · rw [e2, e3]; simp [zi1, hp]
    · rw [e2, e3]; simp [zi1]
    · rw [e2, e3]; simp [zi1]
  refine ⟨fun q => no (fun z => ?_), fun q => ?_⟩
  · have := (lit_lt_nI (d := 10) (by omega) (by decide)).mp q
    omega
  · have q' : ¬ 10 < c := fun z => q ((lit_lt_nI (d := 10) (by omega) (by decide)).mpr z)
    have hv' := hv (by omega)
    have hb := dgV_lt (sg := sg) (i := i) c hd
    have hb2 := p10 (c := c) (by omega)
    have s1 : sm (dgV sg i c : Int) := by unfold sm; omega
    have s2 : sm (2000000000 : Int) := by unfold sm; omega
    rw [hv', show (2000000000 : Int64) = jL 2000000000 from rfl, lg_cmp_gt, j_lt s2 s1]
    refine ⟨fun z => by rw [← hv']; exact no (fun y => by omega), fun z => ?_⟩
    unfold b_K_readDigits_98 b_K_readDigits_111 b_K_readDigits_126
    refine ⟨fun y => absurd y (by decide), fun _ h3 e3 => ⟨fun y => absurd y (by decide), fun _ h2 e2 => ?_⟩⟩
    have e4 : (jL (dgV sg i c : Int)).toInt32 = nI (dgV sg i c) := by unfold jL; rw [l2i_of (by omega) (by omega), i_nat]
    rw [e4] at e2
    refine hy (by omega) h2 (by rw [e2, e3]; exact (fr.rf.zi (by simp)).zi (by simp)) ?_ ?_ ?_ ?_
    · rw [e2, e3]; simp [zi1, hp]
    · rw [e2, e3]; simp [zi1]
    · rw [e2, e3]; simp [zi1]
    · rw [e2]; simp [zi1]
set_option maxHeartbeats 1000000 in
theorem sp_rd {sg : Nat → Nat} {n i : Nat} {post : zH → Prop} (hi : i ≤ 1000) : ∀ (k c : Nat) (l1 : Int64) (h : zH), n - (i + c) ≤ k → i + c ≤ 1000 → RS h sg n → h.1 30 1 = nI (i + c) → (∀ j, j < c → isDg (sg (i + j)) = true) → (c ≤ 10 → l1 = jL (dgV sg i c)) →
    (dgF sg i (dgE sg n k (i + c)) → ∀ h', fr [30] h h' → h'.1 30 1 = nI (dgE sg n k (i + c)) → h'.1 30 3 = h.1 30 3 → h'.1 30 2 = 2 → h'.1 30 4 = nI (dgV sg i (dgE sg n k (i + c) - i)) → post h') →
    (¬ dgF sg i (dgE sg n k (i + c)) → ∀ h', fr [30] h h' → h'.1 30 1 = nI (dgE sg n k (i + c)) → h'.1 30 3 = h.1 30 3 → h'.1 30 2 = 0 → post h') → b_K_readDigits_4 post (k + 1) l1 (nI c) h := by
  intro k
  induction k with
  | zero =>
    intro c l1 h hk hc hR hp hd hv hy hn
    have h4 := hR.2.1
    unfold dgE at hy hn
    unfold b_K_readDigits_4
    rw [hR.1, hp, nI_leI (by omega) (by omega)]
    refine ⟨fun _ => sp_rd79 (by omega) hd hv hp ?_ hn, fun q => by omega⟩
    have ec : i + c - i = c := by omega
    rw [ec] at hy; exact hy
  | succ k ih =>
    intro c l1 h hk hc hR hp hd hv hy hn
    have h4 := hR.2.1
    have ec : i + c - i = c := by omega
    have stop : ¬ (i + c < n ∧ isDg (sg (i + c)) = true) → b_K_readDigits_79 post l1 (nI c) h := by
      intro z
      rw [dgE, if_neg z] at hy hn
      rw [ec] at hy
      exact sp_rd79 (by omega) hd hv hp hy hn
    unfold b_K_readDigits_4
    rw [hR.1, hp, nI_leI (by omega) (by omega)]
    refine ⟨fun q => stop (by omega), fun q => sp_A_signAt ?_⟩
    rw [sign_cs hR (by omega)]
    refine sp_isDigit hR ?_
    have es : sgn sg n (i + c) = sg (i + c) := by unfold sgn; rw [if_pos (by omega)]
    rw [es]
    refine ⟨fun z => stop (fun y => ?_), fun z => ?_⟩
    · rw [y.2] at z; exact absurd z (by decide)
    · have dg : isDg (sg (i + c)) = true := by
        cases e : isDg (sg (i + c)) with
        | true => rfl
        | false => rw [e] at z; exact absurd rfl z
      have db := isDg_b dg
      have hd' : ∀ j, j < c + 1 → isDg (sg (i + j)) = true := by
        intro j hj
        by_cases e : j = c
        · rw [e]; exact dg
        · exact hd j (by omega)
      have eE : dgE sg n (k + 1) (i + c) = dgE sg n k (i + (c + 1)) := by rw [dgE, if_pos ⟨by omega, dg⟩, Nat.add_assoc]
      rw [eE] at hy hn
      have go : ∀ l : Int64, (c + 1 ≤ 10 → l = jL (dgV sg i (c + 1))) → b_K_readDigits_66 post (b_K_readDigits_4 post (k + 1)) l (nI c + 1) h := by
        intro l hl h1 e1
        rw [hp, nI_1] at e1
        rw [nI_1]
        have f1 : fr [30] h h1 := by rw [e1]; exact fr.rf.zi (by simp)
        have e3 : h1.1 30 3 = h.1 30 3 := by rw [e1]; simp [zi1]
        refine ih (c + 1) l h1 (by omega) (by omega) (hR.f30 f1) (by rw [e1]; simp [zi1, Nat.add_assoc]) hd' hl ?_ ?_
        · intro z h' f' a1 a2 a3 a4; exact hy z h' (f1.tr f') a1 (a2.trans e3) a3 a4
        · intro z h' f' a1 a2 a3; exact hn z h' (f1.tr f') a1 (a2.trans e3) a3
      refine ⟨fun y => go l1 (fun x => ?_), fun y => sp_A_signAt ?_⟩
      · rw [nI_1] at y
        have := (lit_lt_nI (d := 10) (by omega) (by decide)).mp y
        omega
      · rw [hp, sign_cs hR (by omega)]
        have e9 : cs sg n (i + c) = nI (sg (i + c)) := by unfold cs; rw [if_pos (by omega)]
        rw [e9]
        refine go _ (fun x => ?_)
        have hb := dgV_lt (sg := sg) (i := i) c hd
        have hb2 := p10 (c := c) (by omega)
        have e10 : (nI (sg (i + c)) - 48).toInt64 = jL ((sg (i + c) - 48 : Nat) : Int) := by
          rw [show (48 : Int32) = nI 48 from rfl, nI_sub db.1, ← i_nat, i2j (by unfold wi; omega)]
        rw [hv (by omega), e10, show (10 : Int64) = jL 10 from rfl, j_mul (by unfold sm; omega) (by unfold sm; omega) (by unfold sm; omega), j_add (by unfold sm; omega) (by unfold sm; omega) (by unfold sm; omega)]
        congr 1
theorem sp_K_readDigits {sg : Nat → Nat} {n i : Nat} {h : zH} {post : zH → Prop} (hi : i ≤ 1000) (hR : RS h sg n) (hp : h.1 30 1 = nI i)
    (hy : dgF sg i (dgE sg n n i) → ∀ h', fr [30] h h' → h'.1 30 1 = nI (dgE sg n n i) → h'.1 30 3 = h.1 30 3 → h'.1 30 2 = 2 → h'.1 30 4 = nI (dgV sg i (dgE sg n n i - i)) → post h')
    (hn : ¬ dgF sg i (dgE sg n n i) → ∀ h', fr [30] h h' → h'.1 30 1 = nI (dgE sg n n i) → h'.1 30 3 = h.1 30 3 → h'.1 30 2 = 0 → post h') : wp_K_readDigits h post :=
  ⟨n + 1, sp_rd (sg := sg) (n := n) (i := i) hi n 0 0 h (by omega) (by omega) hR hp (fun j hj => absurd hj (by omega)) (fun _ => rfl) hy hn⟩
