/-! THE REFERENCE'S TOKENS -/
def RSm (h : zH) (sg : Nat → Nat) (n nv : Nat) : Prop := h.1 39 7 = nI n ∧ n ≤ 400 ∧ (∀ i, i < n → h.1 43 i = nI (sg i) ∧ 32 ≤ sg i ∧ sg i ≤ 126) ∧ h.1 39 1 = nI nv ∧ nv ≤ 20
def keepT (c i : Nat) : Prop := ¬ (c = 39 ∧ (i = 8 ∨ i = 9 ∨ i = 10 ∨ i = 11))
theorem nkT {c i : Nat} (h : ¬ keepT c i := by unfold keepT; omega) : ¬ keepT c i := h
theorem RSm.t {h h' : zH} {sg : Nat → Nat} {n nv : Nat} (f : FK keepT h h') (a : RSm h sg n nv) : RSm h' sg n nv := by
  obtain ⟨a1, a2, a3, a4, a5⟩ := a
  exact ⟨(f 39 7 (by unfold keepT; omega)).1.trans a1, a2, fun i hi => ⟨(f 43 i (by unfold keepT; omega)).1.trans (a3 i hi).1, (a3 i hi).2⟩, (f 39 1 (by unfold keepT; omega)).1.trans a4, a5⟩
theorem sgnm {h : zH} {sg : Nat → Nat} {n nv i : Nat} (a : RSm h sg n nv) : sgn sg n i ≤ 126 := by
  unfold sgn
  split
  · rename_i c; exact (a.2.2.1 i c).2.2
  · omega
theorem sp_M_at {h : zH} {sg : Nat → Nat} {n nv i : Nat} {post : Int32 → zH → Prop} (a : RSm h sg n nv) (hi : i < 2147483648) (hp : post (nI (sgn sg n i)) h) : wp_M_at (nI i) h post := by
  unfold wp_M_at b_M_at_18
  have h4 := a.2.1
  rw [a.1, nI_leI (by omega) (by omega), nI_clamp' hi]
  unfold sgn at hp
  refine ⟨fun q => ?_, fun q => ⟨vp_in_nI (by omega) (by decide), ?_⟩⟩
  · rw [if_neg (by omega)] at hp; exact hp
  · rw [if_pos (by omega)] at hp; rw [(a.2.2.1 i (by omega)).1]; exact hp
theorem isDg_iff {c : Nat} : isDg c = true ↔ 48 ≤ c ∧ c ≤ 57 := by unfold isDg; simp
theorem sp_M_isDigit {h : zH} {sg : Nat → Nat} {n nv i : Nat} {post : Int32 → zH → Prop} (a : RSm h sg n nv) (hi : i < 2147483648) (hp : post (b01 (isDg (sgn sg n i))) h) : wp_M_isDigit (nI i) h post := by
  unfold wp_M_isDigit b_M_isDigit_24 b_M_isDigit_25
  have hs := sgnm (i := i) a
  refine sp_M_at a hi ?_
  rw [nI_lt_lit (d := 48) (by omega) (by decide)]
  refine ⟨fun q => ⟨rfl, ?_⟩, fun q => sp_M_at a hi ?_⟩
  · rw [show isDg (sgn sg n i) = false by unfold isDg; simp; omega] at hp; exact hp
  · rw [lit_lt_nI (d := 57) (by omega) (by decide)]
    refine ⟨fun q2 => ⟨rfl, ?_⟩, fun q2 => ⟨rfl, ?_⟩⟩
    · rw [show isDg (sgn sg n i) = false by unfold isDg; simp; omega] at hp; exact hp
    · rw [show isDg (sgn sg n i) = true by unfold isDg; simp; omega] at hp; exact hp
theorem sp_M_stands {h : zH} {sg : Nat → Nat} {n nv i x y z : Nat} {post : Int32 → zH → Prop} (a : RSm h sg n nv) (e9 : h.1 39 9 = nI i) (hi : i < 100000) (hx : x < 200) (hy : y < 200) (hz : z < 200) (hp : post (b01 (decide (sgn sg n i = x ∧ sgn sg n (i + 1) = y ∧ sgn sg n (i + 2) = z))) h) : wp_M_stands (nI x) (nI y) (nI z) h post := by
  unfold wp_M_stands b_M_stands_44 b_M_stands_45
  have h0 := sgnm (i := i) a
  have h1 := sgnm (i := i + 1) a
  have h2 := sgnm (i := i + 2) a
  rw [e9]
  refine sp_M_at a (by omega) ?_
  rw [nI_eq (by omega) (by omega), e9, nI_1]
  refine ⟨fun q => ⟨rfl, ?_⟩, fun q => sp_M_at a (by omega) ?_⟩
  · rw [show decide (sgn sg n i = x ∧ sgn sg n (i + 1) = y ∧ sgn sg n (i + 2) = z) = false by simp; omega] at hp; exact hp
  · rw [nI_eq (by omega) (by omega), e9, show nI i + 2 = nI (i + 2) from nI_add i 2]
    refine ⟨fun q2 => ⟨rfl, ?_⟩, fun q2 => sp_M_at a (by omega) ?_⟩
    · rw [show decide (sgn sg n i = x ∧ sgn sg n (i + 1) = y ∧ sgn sg n (i + 2) = z) = false by simp; omega] at hp; exact hp
    · rw [nI_eq (by omega) (by omega)]
      refine ⟨fun q3 => ⟨rfl, ?_⟩, fun q3 => ⟨rfl, ?_⟩⟩
      · rw [show decide (sgn sg n i = x ∧ sgn sg n (i + 1) = y ∧ sgn sg n (i + 2) = z) = false by simp; omega] at hp; exact hp
      · rw [show decide (sgn sg n i = x ∧ sgn sg n (i + 1) = y ∧ sgn sg n (i + 2) = z) = true by simp; omega] at hp; exact hp
/-- the token as the reference tells it -/
def tkM (nv : Nat) (t : Tk) : Nat := if t.1 = 3 ∧ nv ≤ t.2.2.1 then 0 else t.1
def NxP (h h' : zH) (nv : Nat) (t : Tk) : Prop := FK keepT h h' ∧ h'.1 39 8 = nI (rop (tkM nv t)) ∧ h'.1 39 9 = nI t.2.1 ∧ (t.1 = 2 ∨ t.1 = 3 → h'.2.1 39 11 = jL (t.2.2.1 : Int)) ∧ (t.1 ≠ 0 → h'.1 39 10 = nI t.2.2.2)
theorem j_step {v s : Nat} (hv : v ≤ 1000000000000) (hs : 48 ≤ s ∧ s ≤ 126) : 10 * jL (v : Int) + (nI s).toInt64 - 48 = jL ((v * 10 + (s - 48) : Nat) : Int) := by
  have e10 : (10 : Int64) = jL 10 := rfl
  have e48 : (48 : Int64) = jL 48 := rfl
  rw [nI_j (by omega), e10, e48, j_mul (by unfold sm; omega) (by unfold sm; omega) (by unfold sm; omega), j_add (by unfold sm; omega) (by unfold sm; omega) (by unfold sm; omega), j_sub (by unfold sm; omega) (by unfold sm; omega) (by unfold sm; omega)]
  congr 1
  omega
theorem p11 {c : Nat} (h : c ≤ 11) : 10 ^ c ≤ 100000000000 := by
  have : 10 ^ c ≤ 10 ^ 11 := Nat.pow_le_pow_right (by decide) h
  omega
def dgT (sg : Nat → Nat) (i j : Nat) : Nat := if j - i ≤ 10 ∧ dgV sg i (j - i) ≤ 2000000000 then 2 else 0
theorem dgT_y {sg : Nat → Nat} {i j : Nat} (h : dgF sg i j) : dgT sg i j = 2 := by unfold dgF at h; unfold dgT; rw [if_pos h]
theorem dgT_n {sg : Nat → Nat} {i j : Nat} (h : ¬ dgF sg i j) : dgT sg i j = 0 := by unfold dgF at h; unfold dgT; rw [if_neg h]
theorem sp_nx115 {sg : Nat → Nat} {n nv i : Nat} {post : zH → Prop} (hi : i ≤ 1000) : ∀ (k c : Nat) (h : zH), n - (i + c) ≤ k → c ≤ 1000 → RSm h sg n nv → h.1 39 9 = nI i → h.1 39 10 = nI (i + c) → (∀ j, j < c → isDg (sg (i + j)) = true ∧ i + j < n) → (c ≤ 11 → h.2.1 39 11 = jL (dgV sg i c : Int)) →
    (∀ h', FK keepT h h' → h'.1 39 8 = nI (rop (dgT sg i (dgE sg n k (i + c)))) → h'.1 39 9 = nI i → (dgF sg i (dgE sg n k (i + c)) → h'.2.1 39 11 = jL (dgV sg i (dgE sg n k (i + c) - i) : Int)) → h'.1 39 10 = nI (dgE sg n k (i + c)) → post h') → b_M_next_115 post (k + 1) h := by
  intro k
  induction k with
  | zero =>
    intro c h hk hc a e9 e10 hd hv hq
    have h4 := a.2.1
    unfold b_M_next_115
    have s0 : sgn sg n (i + c) = 0 := by unfold sgn; rw [if_neg (by omega)]
    rw [e10]
    refine sp_M_isDigit a (by omega) ?_
    rw [s0, e10, e9, show nI (i + c) - nI i = nI c by rw [nI_sub (by omega)]; congr 1; omega]
    have ee : dgE sg n 0 (i + c) = i + c := rfl
    rw [ee, Nat.add_sub_cancel_left] at hq
    have c2 : (2000000000 : Int64) = jL 2000000000 := rfl
    rw [lit_lt_nI (d := 10) (by omega) (by decide)]
    unfold b_M_next_205 b_M_next_211 b_M_next_648
    have dv : c ≤ 10 → dgV sg i c < 10 ^ c := fun _ => dgV_lt c (fun j hj => (hd j hj).1)
    refine ⟨fun _ => ⟨fun q h2 g2 => ?_, fun q => ?_⟩, fun q => absurd rfl q⟩
    · have nf : ¬ dgF sg i (i + c) := by unfold dgF; omega
      rw [dgT_n nf] at hq
      rw [g2]
      exact hq _ (FK.rf.zi nkT) (by simp [zi1]; rfl) (by simp [zi1]; exact e9) (fun z => absurd z nf) (by simp [zi1]; exact e10)
    · have d1 := dv (by omega)
      have d2 := p10 (c := c) (by omega)
      rw [hv (by omega), c2, lg_cmp_le, j_le (by unfold sm; omega) (by unfold sm; omega)]
      refine ⟨fun q2 h2 g2 => ?_, fun q2 h2 g2 => ?_⟩
      · have yf : dgF sg i (i + c) := by unfold dgF; rw [Nat.add_sub_cancel_left]; omega
        rw [dgT_y yf] at hq
        rw [g2]
        exact hq _ (FK.rf.zi nkT) (by simp [zi1]; rfl) (by simp [zi1]; exact e9) (fun _ => hv (by omega)) (by simp [zi1]; exact e10)
      · have nf : ¬ dgF sg i (i + c) := by unfold dgF; rw [Nat.add_sub_cancel_left]; omega
        rw [dgT_n nf] at hq
        rw [g2]
        exact hq _ (FK.rf.zi nkT) (by simp [zi1]; rfl) (by simp [zi1]; exact e9) (fun z => absurd z nf) (by simp [zi1]; exact e10)
  | succ k ih =>
    intro c h hk hc a e9 e10 hd hv hq
    have h4 := a.2.1
    unfold b_M_next_115
    rw [e10]
    refine sp_M_isDigit a (by omega) ?_
    rw [e10, e9, show nI (i + c) - nI i = nI c by rw [nI_sub (by omega)]; congr 1; omega]
    by_cases cd : i + c < n ∧ isDg (sg (i + c)) = true
    · have ee : dgE sg n (k + 1) (i + c) = dgE sg n k (i + (c + 1)) := by rw [dgE, if_pos cd]; rfl
      rw [ee] at hq
      have s0 : sgn sg n (i + c) = sg (i + c) := by unfold sgn; rw [if_pos cd.1]
      have sb := isDg_iff.mp cd.2
      rw [s0, cd.2]
      have hd' : ∀ j, j < c + 1 → isDg (sg (i + j)) = true ∧ i + j < n := by
        intro j hj
        by_cases cj : j = c
        · subst cj; exact ⟨cd.2, cd.1⟩
        · exact hd j (by omega)
      refine ⟨fun q => absurd q (by decide), fun _ => ?_⟩
      rw [lit_le_nI (d := 11) (by omega) (by decide)]
      unfold b_M_next_166
      refine ⟨fun q h1 g1 => ?_, fun q => sp_M_at a (by omega) (fun h7 g7 h1 g1 => ?_)⟩
      · rw [e10, nI_1] at g1
        have f1 : FK keepT h h1 := by rw [g1]; exact FK.rf.zi nkT
        refine ih (c + 1) h1 (by omega) (by omega) (a.t f1) (by rw [g1]; simp [zi1]; exact e9) (by rw [g1]; simp [zi1]; rfl) hd' (fun z => by omega) (fun h9 f9 w1 w2 w3 w4 => hq h9 (f1.tr f9) w1 w2 w3 w4)
      · have d1 := dgV_lt (sg := sg) (i := i) c (fun j hj => (hd j hj).1)
        have d2 := p11 (c := c) (by omega)
        rw [s0, hv (by omega), j_step (by omega) (by omega)] at g7
        have e10' : h7.1 39 10 = nI (i + c) := by rw [g7, zl1]; exact e10
        rw [e10', nI_1] at g1
        have f1 : FK keepT h h1 := by rw [g1, g7]; exact (FK.rf.zl nkT).zi nkT
        refine ih (c + 1) h1 (by omega) (by omega) (a.t f1) (by rw [g1, g7]; simp [zi1, zl1]; exact e9) (by rw [g1]; simp [zi1]; rfl) hd' (fun z => ?_) (fun h9 f9 w1 w2 w3 w4 => hq h9 (f1.tr f9) w1 w2 w3 w4)
        rw [g1, g7, zi2]
        simp [zl2, dgV]
    · have ee : dgE sg n (k + 1) (i + c) = i + c := by rw [dgE, if_neg cd]
      rw [ee, Nat.add_sub_cancel_left] at hq
      have s0 : isDg (sgn sg n (i + c)) = false := by
        unfold sgn
        by_cases cn : i + c < n
        · rw [if_pos cn]
          cases z : isDg (sg (i + c)) with
          | false => rfl
          | true => exact absurd ⟨cn, z⟩ cd
        · rw [if_neg cn]; rfl
      rw [s0]
      have c2 : (2000000000 : Int64) = jL 2000000000 := rfl
      rw [lit_lt_nI (d := 10) (by omega) (by decide)]
      unfold b_M_next_205 b_M_next_211 b_M_next_648
      have dv : c ≤ 10 → dgV sg i c < 10 ^ c := fun _ => dgV_lt c (fun j hj => (hd j hj).1)
      refine ⟨fun _ => ⟨fun q h2 g2 => ?_, fun q => ?_⟩, fun q => absurd rfl q⟩
      · have nf : ¬ dgF sg i (i + c) := by unfold dgF; omega
        rw [dgT_n nf] at hq
        rw [g2]
        exact hq _ (FK.rf.zi nkT) (by simp [zi1]; rfl) (by simp [zi1]; exact e9) (fun z => absurd z nf) (by simp [zi1]; exact e10)
      · have d1 := dv (by omega)
        have d2 := p10 (c := c) (by omega)
        rw [hv (by omega), c2, lg_cmp_le, j_le (by unfold sm; omega) (by unfold sm; omega)]
        refine ⟨fun q2 h2 g2 => ?_, fun q2 h2 g2 => ?_⟩
        · have yf : dgF sg i (i + c) := by unfold dgF; rw [Nat.add_sub_cancel_left]; omega
          rw [dgT_y yf] at hq
          rw [g2]
          exact hq _ (FK.rf.zi nkT) (by simp [zi1]; rfl) (by simp [zi1]; exact e9) (fun _ => hv (by omega)) (by simp [zi1]; exact e10)
        · have nf : ¬ dgF sg i (i + c) := by unfold dgF; rw [Nat.add_sub_cancel_left]; omega
          rw [dgT_n nf] at hq
          rw [g2]
          exact hq _ (FK.rf.zi nkT) (by simp [zi1]; rfl) (by simp [zi1]; exact e9) (fun z => absurd z nf) (by simp [zi1]; exact e10)
/-- behind the last figure of a variable's number -/
theorem sp_nx275e {sg : Nat → Nat} {n nv x v : Nat} {h : zH} {post : zH → Prop} {k : Nat} (a : RSm h sg n nv) (hx : x < 100000) (hv : v < 1000) (e10 : h.1 39 10 = nI x) (e11 : h.2.1 39 11 = jL (v : Int))
    (hq : post (zi h 39 8 (nI (rop (if nv ≤ v then 0 else 3))))) : b_M_next_275 post (k + 1) (nI x) h := by
  have h4 := a.2.2.2.2
  unfold b_M_next_275 b_M_next_332 b_M_next_648
  rw [e10, e11, a.2.2.2.1, nI_leI (by omega) (by omega), nI_j (by omega), lg_cmp_ge, j_le (by unfold sm; omega) (by unfold sm; omega)]
  refine ⟨fun _ => ⟨fun q h8 g8 => ?_, fun q h8 g8 => ?_⟩, fun q => absurd (Nat.le_refl x) q⟩
  · rw [if_pos (by omega)] at hq; rw [g8]; exact hq
  · rw [if_neg (by omega)] at hq; rw [g8]; exact hq
theorem sp_nx275 {sg : Nat → Nat} {n nv x y v : Nat} {h : zH} {post : zH → Prop} {k : Nat} (a : RSm h sg n nv) (hy : y < 100000) (hxy : x < y) (hv : v < 1000) (e10 : h.1 39 10 = nI y) (e11 : h.2.1 39 11 = jL (v : Int)) (hs : isDg (sgn sg n x) = true)
    (hq : b_M_next_275 post k (nI (x + 1)) (zl h 39 11 (jL ((v * 10 + (sgn sg n x - 48) : Nat) : Int)))) : b_M_next_275 post (k + 1) (nI x) h := by
  have h4 := a.2.2.2.2
  have sb := isDg_iff.mp hs
  unfold b_M_next_275
  rw [e10, e11, nI_leI (by omega) (by omega)]
  refine ⟨fun q => absurd q (by omega), fun _ => sp_M_at a (by omega) (fun h11 g11 => ?_)⟩
  rw [j_step (by omega) (by omega)] at g11
  rw [g11, nI_1]; exact hq
