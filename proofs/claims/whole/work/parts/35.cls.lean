/-! LONGS BY INTS -/
def jL (a : Int) : Int64 := Int64.ofInt a
def sm (a : Int) : Prop := -9000000000000000000 ≤ a ∧ a ≤ 9000000000000000000
theorem jT {a : Int} (h : sm a) : (jL a).toInt = a := Int64.toInt_ofInt_of_le (by have := h.1; omega) (by have := h.2; omega)
theorem bm {a : Int} (h : sm a) : a.bmod (2 ^ 64) = a := Int.bmod_eq_of_le (by have := h.1; omega) (by have := h.2; omega)
theorem j_of {x : Int64} {a : Int} (h : sm a) (e : x.toInt = a) : x = jL a := by
  apply Int64.toInt_inj.mp
  rw [jT h, e]
theorem j_add {a b : Int} (ha : sm a) (hb : sm b) (h : sm (a + b)) : jL a + jL b = jL (a + b) := j_of h (by rw [Int64.toInt_add, jT ha, jT hb, bm h])
theorem j_sub {a b : Int} (ha : sm a) (hb : sm b) (h : sm (a - b)) : jL a - jL b = jL (a - b) := j_of h (by rw [Int64.toInt_sub, jT ha, jT hb, bm h])
theorem j_mul {a b : Int} (ha : sm a) (hb : sm b) (h : sm (a * b)) : jL a * jL b = jL (a * b) := j_of h (by rw [Int64.toInt_mul, jT ha, jT hb, bm h])
theorem j_neg {a : Int} (ha : sm a) (h : sm (-a)) : -jL a = jL (-a) := j_of h (by rw [Int64.toInt_neg, jT ha, bm h])
theorem j_div {a b : Int} (ha : sm a) (hb : sm b) (h : sm (a.tdiv b)) : jL a / jL b = jL (a.tdiv b) := j_of h (by rw [Int64.toInt_div, jT ha, jT hb, bm h])
theorem j_lt {a b : Int} (ha : sm a) (hb : sm b) : jL a < jL b ↔ a < b := by rw [Int64.lt_iff_toInt_lt, jT ha, jT hb]
theorem j_le {a b : Int} (ha : sm a) (hb : sm b) : jL a ≤ jL b ↔ a ≤ b := by rw [Int64.le_iff_toInt_le, jT ha, jT hb]
theorem j_eq {a b : Int} (ha : sm a) (hb : sm b) : jL a = jL b ↔ a = b := by rw [← Int64.toInt_inj, jT ha, jT hb]
theorem j_min {a b : Int} (ha : sm a) (hb : sm b) : (if jL b < jL a then jL b else jL a) = jL (min a b) := by
  by_cases c : b < a
  · rw [if_pos ((j_lt hb ha).mpr c), Int.min_eq_right (by omega)]
  · rw [if_neg (fun q => c ((j_lt hb ha).mp q)), Int.min_eq_left (by omega)]
theorem j_max {a b : Int} (ha : sm a) (hb : sm b) : (if jL b < jL a then jL a else jL b) = jL (max a b) := by
  by_cases c : b < a
  · rw [if_pos ((j_lt hb ha).mpr c), Int.max_eq_left (by omega)]
  · rw [if_neg (fun q => c ((j_lt hb ha).mp q)), Int.max_eq_right (by omega)]
theorem sm_min {a b : Int} (ha : sm a) (hb : sm b) : sm (min a b) := by unfold sm at *; omega
theorem sm_max {a b : Int} (ha : sm a) (hb : sm b) : sm (max a b) := by unfold sm at *; omega
theorem j_abs {a : Int} (ha : sm a) : (if 0 < jL a then jL a else -jL a) = jL (ab a) := by
  have h0 : sm 0 := by unfold sm; omega
  have hn : sm (-a) := by unfold sm at *; omega
  show (if jL 0 < jL a then jL a else -jL a) = jL (ab a)
  by_cases c : 0 < a
  · rw [if_pos ((j_lt h0 ha).mpr c)]; unfold ab; rw [if_neg (by omega)]
  · rw [if_neg (fun q => c ((j_lt h0 ha).mp q)), j_neg ha hn]
    unfold ab
    by_cases c2 : a < 0
    · rw [if_pos c2]
    · rw [if_neg c2]; congr 1; omega
theorem sm_abs {a : Int} (ha : sm a) : sm (ab a) := by unfold ab; split <;> (unfold sm at *; omega)
theorem j0 : jL 0 = 0 := rfl
theorem j1 : jL 1 = 1 := rfl
/-- within what ranges may be -/
def wi (a : Int) : Prop := -2000000000 ≤ a ∧ a ≤ 2000000000
theorem wi_sm {a : Int} (h : wi a) : sm a := by unfold wi at h; unfold sm; omega
theorem wi_mul {a b : Int} (ha : wi a) (hb : wi b) : sm (a * b) := by
  unfold wi at ha hb
  have h1 : a * b ≤ 2000000000 * 2000000000 := by
    have p1 : 0 ≤ (2000000000 - a) * (2000000000 + b) := Int.mul_nonneg (by omega) (by omega)
    have p2 : 0 ≤ (2000000000 + a) * (2000000000 - b) := Int.mul_nonneg (by omega) (by omega)
    have e1 : (2000000000 - a) * (2000000000 + b) = 2000000000 * 2000000000 + 2000000000 * b - 2000000000 * a - a * b := by
      rw [Int.sub_mul, Int.mul_add, Int.mul_add, Int.mul_comm a 2000000000]; omega
    have e2 : (2000000000 + a) * (2000000000 - b) = 2000000000 * 2000000000 - 2000000000 * b + 2000000000 * a - a * b := by
      rw [Int.add_mul, Int.mul_sub, Int.mul_sub, Int.mul_comm a 2000000000]; omega
    omega
  have h2 : -(2000000000 * 2000000000) ≤ a * b := by
    have p1 : 0 ≤ (2000000000 + a) * (2000000000 + b) := Int.mul_nonneg (by omega) (by omega)
    have p2 : 0 ≤ (2000000000 - a) * (2000000000 - b) := Int.mul_nonneg (by omega) (by omega)
    have e1 : (2000000000 + a) * (2000000000 + b) = 2000000000 * 2000000000 + 2000000000 * b + 2000000000 * a + a * b := by
      rw [Int.add_mul, Int.mul_add, Int.mul_add, Int.mul_comm a 2000000000]; omega
    have e2 : (2000000000 - a) * (2000000000 - b) = 2000000000 * 2000000000 - 2000000000 * b - 2000000000 * a + a * b := by
      rw [Int.sub_mul, Int.mul_sub, Int.mul_sub, Int.mul_comm a 2000000000]; omega
    omega
  unfold sm
  omega
theorem wi_div {a b : Int} (ha : wi a) : sm (a.tdiv b) := by
  unfold wi at ha
  have := Int.natAbs_tdiv_le_natAbs a b
  unfold sm
  omega
theorem sp_N_put {k : Nat} {x y : Int64} {h : zH} {post : zH → Prop} (hk : xRg k) (hp : post (zl (zl h k 0 x) k 1 y)) : wp_N_put k x y h post := by
  unfold wp_N_put
  exact ⟨hk, fun h1 g1 h2 g2 => by rw [g2, g1]; exact hp⟩
theorem sp_N_cover {k : Nat} {a b c d : Int} {h : zH} {post : zH → Prop} (hk : xRg k) (ha : sm a) (hb : sm b) (hc : sm c) (hd : sm d) (hp : post (zl (zl h k 0 (jL (mn4 a b c d))) k 1 (jL (mx4 a b c d)))) : wp_N_cover k (jL a) (jL b) (jL c) (jL d) h post := by
  unfold wp_N_cover
  refine ⟨hk, fun h1 g1 h2 g2 => ?_⟩
  rw [j_min ha hb, j_min hc hd, j_min (sm_min ha hb) (sm_min hc hd)] at g1
  rw [j_max ha hb, j_max hc hd, j_max (sm_max ha hb) (sm_max hc hd)] at g2
  rw [g2, g1]
  exact hp
theorem sp_N_hasZero {k : Nat} {a b : Int} {h : zH} {post : Int32 → zH → Prop} (hk : xRg k) (e0 : h.2.1 k 0 = jL a) (e1 : h.2.1 k 1 = jL b) (ha : sm a) (hb : sm b) (hp : post (b01 (decide (a ≤ 0 ∧ 0 ≤ b))) h) : wp_N_hasZero k h post := by
  unfold wp_N_hasZero b_N_hasZero_22 b_N_hasZero_23
  have h0 : sm 0 := by unfold sm; omega
  rw [e0, e1, ← j0]
  simp only [lg_cmp_gt, lg_cmp_lt, j_lt h0 ha, j_lt hb h0]
  refine ⟨hk, fun q => ⟨rfl, ?_⟩, fun q => ⟨fun q2 => ⟨rfl, ?_⟩, fun q2 => ⟨rfl, ?_⟩⟩⟩
  · have : decide (a ≤ 0 ∧ 0 ≤ b) = false := by simp; omega
    rw [this] at hp; exact hp
  · have : decide (a ≤ 0 ∧ 0 ≤ b) = false := by simp; omega
    rw [this] at hp; exact hp
  · have : decide (a ≤ 0 ∧ 0 ≤ b) = true := by simp; omega
    rw [this] at hp; exact hp
theorem sp_N_isBeyond {k : Nat} {a b : Int} {h : zH} {post : Int32 → zH → Prop} (hk : xRg k) (e0 : h.2.1 k 0 = jL a) (e1 : h.2.1 k 1 = jL b) (ha : sm a) (hb : sm b) (hp : post (b01 (decide (a < -2000000000 ∨ 2000000000 < b))) h) : wp_N_isBeyond k h post := by
  unfold wp_N_isBeyond b_N_isBeyond_22 b_N_isBeyond_27
  have h1 : sm (-2000000000) := by unfold sm; omega
  have h2 : sm 2000000000 := by unfold sm; omega
  have c1 : (-2000000000 : Int64) = jL (-2000000000) := rfl
  have c2 : (2000000000 : Int64) = jL 2000000000 := rfl
  rw [e0, e1, c1, c2]
  simp only [lg_cmp_lt, lg_cmp_le, j_lt ha h1, j_le hb h2]
  refine ⟨hk, fun q => ⟨rfl, ?_⟩, fun q => ⟨fun q2 => ⟨rfl, ?_⟩, fun q2 => ⟨rfl, ?_⟩⟩⟩
  · have : decide (a < -2000000000 ∨ 2000000000 < b) = true := by simp; omega
    rw [this] at hp; exact hp
  · have : decide (a < -2000000000 ∨ 2000000000 < b) = false := by simp; omega
    rw [this] at hp; exact hp
  · have : decide (a < -2000000000 ∨ 2000000000 < b) = true := by simp; omega
    rw [this] at hp; exact hp
theorem sp_N_reckonSize {k y : Nat} {a b : Int} {h : zH} {post : zH → Prop} (hk : xRg k) (hy : xRg y) (e0 : h.2.1 y 0 = jL a) (e1 : h.2.1 y 1 = jL b) (ha : sm a) (hb : sm b) (hp : post (zl (zl h k 0 (jL (rg1 25 a b).1)) k 1 (jL (rg1 25 a b).2))) : wp_N_reckonSize k y h post := by
  unfold wp_N_reckonSize b_N_reckonSize_35
  refine ⟨hk, hy, sp_N_hasZero hy e0 e1 ha hb ?_⟩
  rw [e0, e1, j_abs ha, j_abs hb, j_min (sm_abs ha) (sm_abs hb), j_max (sm_abs ha) (sm_abs hb)]
  have hp2 : post (zl (zl h k 0 (jL (if a ≤ 0 ∧ 0 ≤ b then 0 else min (ab a) (ab b)))) k 1 (jL (max (ab a) (ab b)))) := by simpa [rg1] using hp
  refine ⟨fun q h1 g1 h2 g2 => ?_, fun q h1 g1 h2 g2 => ?_⟩
  · have : ¬ (a ≤ 0 ∧ 0 ≤ b) := by
      intro z
      rw [show decide (a ≤ 0 ∧ 0 ≤ b) = true by simpa using z] at q
      exact absurd q (by decide)
    rw [if_neg this] at hp2
    rw [g2, g1]; exact hp2
  · have : a ≤ 0 ∧ 0 ≤ b := by
      by_cases z : a ≤ 0 ∧ 0 ≤ b
      · exact z
      · rw [show decide (a ≤ 0 ∧ 0 ≤ b) = false by simpa using z] at q
        exact absurd rfl q
    rw [if_pos this] at hp2
    rw [g2, g1]; exact hp2
theorem xRg_ne {k x : Nat} (h : k ≠ x) {h0 : zH} {j : Nat} {v : Int64} (i : Nat) : (zl h0 k j v).2.1 x i = h0.2.1 x i := by
  rw [zl_ne (fun e => h e.symm)]
theorem sp_N_reckonRest {k x y : Nat} {a b c d : Int} {h : zH} {post : zH → Prop} (hk : xRg k) (hx : xRg x) (hy : xRg y) (hkx : k ≠ x) (e0 : h.2.1 x 0 = jL a) (e1 : h.2.1 x 1 = jL b) (e2 : h.2.1 y 0 = jL c) (e3 : h.2.1 y 1 = jL d) (ha : wi a) (hb : wi b) (hc : wi c) (hd : wi d) (hp : post (zl (zl h k 0 (jL (rg2 13 a b c d).1)) k 1 (jL (rg2 13 a b c d).2))) : wp_N_reckonRest k x y h post := by
  unfold wp_N_reckonRest b_N_reckonRest_44 b_N_reckonRest_69
  have h0 : sm 0 := by unfold sm; omega
  have hm : sm (max (ab c) (ab d) - 1) := by
    unfold wi at hc hd
    unfold sm ab
    omega
  have sab : jL (max (ab c) (ab d)) - 1 = jL (max (ab c) (ab d) - 1) := by
    rw [← j1, j_sub (sm_max (sm_abs (wi_sm hc)) (sm_abs (wi_sm hd))) (by unfold sm; omega) hm]
  have hna : sm (-a) := by unfold wi at ha; unfold sm; omega
  rw [e2, e3, j_abs (wi_sm hc), j_abs (wi_sm hd), j_max (sm_abs (wi_sm hc)) (sm_abs (wi_sm hd)), sab, e0, j_neg (wi_sm ha) hna, j_min hm hna, j_neg (sm_min hm hna) (by have := sm_min hm hna; unfold sm at *; omega)]
  have hp2 : post (zl (zl h k 0 (jL (if a < 0 then -(min (max (ab c) (ab d) - 1) (-a)) else 0))) k 1 (jL (if 0 < b then min (max (ab c) (ab d) - 1) b else 0))) := by simpa [rg2] using hp
  clear hp
  have z0 : (0 : Int64) = jL 0 := rfl
  have fin : ∀ v : Int64, v = jL (if a < 0 then -(min (max (ab c) (ab d) - 1) (-a)) else 0) → ∀ h2 : zH, h2 = zl h k 0 v → (lg_cmp (h2.2.1 x 1) 0 ≤ 0 → ∀ h1 : zH, h1 = zl h2 k 1 0 → post h1) ∧ (¬ lg_cmp (h2.2.1 x 1) 0 ≤ 0 → ∀ h1 : zH, h1 = zl h2 k 1 (if h2.2.1 x 1 < jL (max (ab c) (ab d) - 1) then h2.2.1 x 1 else jL (max (ab c) (ab d) - 1)) → post h1) := by
    intro v ev h2 g2
    have e9 : h2.2.1 x 1 = jL b := by rw [g2, xRg_ne hkx, e1]
    rw [e9, j_min hm (wi_sm hb)]
    rw [lg_cmp_le, z0, j_le (wi_sm hb) h0]
    refine ⟨fun q h1 g1 => ?_, fun q h1 g1 => ?_⟩
    · rw [if_neg (show ¬ 0 < b by omega)] at hp2
      rw [g1, g2, ev]; exact hp2
    · rw [if_pos (show 0 < b by omega)] at hp2
      rw [g1, g2, ev]; exact hp2
  rw [lg_cmp_ge, z0, j_le h0 (wi_sm ha)]
  refine ⟨hk, hx, hy, fun q => fin _ ?_, fun q => fin _ ?_⟩
  · rw [if_neg (show ¬ a < 0 by omega)]
  · rw [if_pos (show a < 0 by omega)]
