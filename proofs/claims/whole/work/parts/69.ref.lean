def nxE (post : zH → Prop) (h25 : zH) : Prop := wp_M_at ((h25.1 39 9)) h25 (fun (r26 : Int32) (h27 : zH) => wp_M_at (((h27.1 39 9) + 1)) h27 (fun (r28 : Int32) (h29 : zH) => (∀ h30 : zH, h30 = zi h29 39 10 ((h29.1 39 9) + 1) → (∀ h31 : zH, h31 = zl h30 39 11 0 → (((h31.1 39 9) < (h31.1 39 7) → wp_M_isDigit ((h31.1 39 9)) h31 (fun (r32 : Int32) (h33 : zH) => ((r32 = 0 → ((¬ r26 = 118 → b_M_next_338 post (r26) (r28) h33) ∧ (r26 = 118 → wp_M_isDigit (((h33.1 39 9) + 1)) h33 (fun (r34 : Int32) (h35 : zH) => ((r34 = 0 → b_M_next_338 post (r26) (r28) h35) ∧ (¬ r34 = 0 → wp_M_isDigit (((h35.1 39 9) + 2)) h35 (fun (r36 : Int32) (h37 : zH) => ((r36 = 0 → b_M_next_265 post (((h37.1 39 9) + 2)) h37) ∧ (¬ r36 = 0 → b_M_next_265 post (((h37.1 39 9) + 3)) h37))))))))) ∧ (¬ r32 = 0 → (∀ h38 : zH, h38 = zi h33 39 10 (h33.1 39 9) → (∃ n : Nat, b_M_next_115 post n h38)))))) ∧ (¬ (h31.1 39 9) < (h31.1 39 7) → (∀ h39 : zH, h39 = zi h31 39 8 1 → (∀ h40 : zH, h40 = zi h39 39 10 (h39.1 39 9) → b_M_next_648 post h40))))))))
theorem sp_nskip {sg : Nat → Nat} {n nv : Nat} {post : zH → Prop} : ∀ (k i : Nat) (h : zH), n - i ≤ k → RSm h sg n nv → h.1 39 9 = nI i → i ≤ 1000 → (∀ h', FK keepT h h' → h'.1 39 9 = nI (skp sg n k i) → nxE post h') → b_M_next_8 post (k + 1) h := by
  intro k
  induction k with
  | zero =>
    intro i h hk a e9 hi hq
    have s0 : sgn sg n i = 0 := by unfold sgn; rw [if_neg (by omega)]
    unfold b_M_next_8
    rw [e9]
    refine sp_M_at a (by omega) ?_
    rw [s0]
    exact ⟨fun _ => hq h FK.rf e9, fun q => absurd q (by decide)⟩
  | succ k ih =>
    intro i h hk a e9 hi hq
    have h4 := a.2.1
    have hs := sgnm (i := i) a
    unfold b_M_next_8
    rw [e9]
    refine sp_M_at a (by omega) ?_
    rw [nI_lit (d := 32) (by omega) (by decide)]
    by_cases c : i < n ∧ sg i = 32
    · have es : sgn sg n i = 32 := by unfold sgn; rw [if_pos c.1]; exact c.2
      have ee : skp sg n (k + 1) i = skp sg n k (i + 1) := by rw [skp, if_pos c]
      rw [ee] at hq
      refine ⟨fun q => absurd es q, fun _ h41 g41 => ?_⟩
      rw [e9, nI_1] at g41
      have f1 : FK keepT h h41 := by rw [g41]; exact FK.rf.zi nkT
      exact ih (i + 1) h41 (by omega) (a.t f1) (by rw [g41]; simp [zi1]) (by omega) (fun h' f' e' => hq h' (f1.tr f') e')
    · have es : ¬ sgn sg n i = 32 := by
        unfold sgn
        by_cases cn : i < n
        · rw [if_pos cn]; exact fun z => c ⟨cn, z⟩
        · rw [if_neg cn]; decide
      have ee : skp sg n (k + 1) i = i := by rw [skp, if_neg c]
      rw [ee] at hq
      exact ⟨fun _ => hq h FK.rf e9, fun q => absurd q es⟩
theorem sng_ne {a : Nat} (h : a ≤ 126) : sng a ≠ 2 ∧ sng a ≠ 3 := by
  have : ∀ a, a < 127 → sng a ≠ 2 ∧ sng a ≠ 3 := by decide
  exact this a (by omega)
set_option maxHeartbeats 1000000 in
theorem sp_M_next {sg : Nat → Nat} {n nv i0 : Nat} {h : zH} {post : zH → Prop} (a : RSm h sg n nv) (hi0 : i0 ≤ 600) (e10 : h.1 39 10 = nI i0) (hq : ∀ h', NxP h h' nv (tok sg n i0) → post h') : wp_M_next h post := by
  unfold wp_M_next
  intro h42 g42
  rw [e10] at g42
  have f42 : FK keepT h h42 := by rw [g42]; exact FK.rf.zi nkT
  refine ⟨n + 1, sp_nskip n i0 h42 (by omega) (a.t f42) (by rw [g42]; simp [zi1]) (by omega) (fun h1 f1 e9 => ?_)⟩
  have f01 : FK keepT h h1 := f42.tr f1
  have a1 := a.t f01
  have h4 := a.2.1
  have sr := skp_rng (sg := sg) (n := n) n i0
  unfold tok at hq
  dsimp only at hq
  generalize skp sg n n i0 = i at *
  have ha := sgnm (i := i) a
  have hb := sgnm (i := i + 1) a
  have hc := sgnm (i := i + 2) a
  have hi : i ≤ 1000 := by omega
  unfold nxE
  rw [e9]
  refine sp_M_at a1 (by omega) ?_
  rw [e9, nI_1]
  refine sp_M_at a1 (by omega) (fun h30 g30 h31 g31 => ?_)
  rw [e9, nI_1] at g30
  have f31 : FK keepT h h31 := by rw [g31, g30]; exact (f01.zi nkT).zl nkT
  have a31 := a.t f31
  have w9 : h31.1 39 9 = nI i := by rw [g31, g30]; simp [zi1, zl1]; exact e9
  have w10 : h31.1 39 10 = nI (i + 1) := by rw [g31, g30]; simp [zi1, zl1]
  have w11 : h31.2.1 39 11 = jL ((0 : Nat) : Int) := by rw [g31, g30]; simp [zi2, zl2]; rfl
  rw [w9, a31.1, nI_ltI (by omega) (by omega)]
  have skT : ∀ {x : Nat}, x ≠ 3 → ∀ (p q r : Nat), tkM nv (x, p, q, r) = x := by
    intro x hx p q r
    unfold tkM
    rw [if_neg (fun z => hx z.1)]
  refine ⟨fun q => sp_M_isDigit a31 (by omega) ?_, fun q h39 g39 h40 g40 => ?_⟩
  · rw [if_neg (by omega)] at hq
    rw [w9, nI_lit (d := 118) (by omega) (by decide), nI_1]
    refine ⟨fun z => ?_, fun z h38 g38 => ?_⟩
    · rw [b01f] at z
      rw [if_neg (by rw [z]; decide)] at hq
      have g338 : ¬ (sgn sg n i = 118 ∧ isDg (sgn sg n (i + 1)) = true) → b_M_next_338 post (nI (sgn sg n i)) (nI (sgn sg n (i + 1))) h31 := by
        intro hno
        refine sp_nx338 a31 hi w9 w10 (fun h' f' u8 u9 u10 => ?_)
        by_cases c118 : sgn sg n i = 118
        · rw [if_pos c118, if_neg (fun z9 => hno ⟨c118, z9⟩)] at hq
          have et : tkR (sgn sg n i) (sgn sg n (i + 1)) (sgn sg n (i + 2)) = 0 := by
            rw [c118]
            unfold tkR
            rw [if_neg (by decide), if_neg (fun z9 => z9 (by apply dbl0 <;> omega))]
            rfl
          rw [et] at u8
          exact hq h' ⟨f31.tr f', u8, u9, fun z9 => by simp only at z9; omega, fun z9 => absurd rfl z9⟩
        · rw [if_neg c118] at hq
          by_cases cw : sgn sg n i = 109 ∨ sgn sg n i = 97
          · rw [if_pos cw] at hq
            have et : tkR (sgn sg n i) (sgn sg n (i + 1)) (sgn sg n (i + 2)) = wrd (sgn sg n i) (sgn sg n (i + 1)) (sgn sg n (i + 2)) := by unfold tkR; rw [if_pos cw]
            have en : tkN i (sgn sg n i) (sgn sg n (i + 1)) = i + 3 := by unfold tkN; rw [if_pos cw]
            have wl : wrd (sgn sg n i) (sgn sg n (i + 1)) (sgn sg n (i + 2)) ≠ 2 ∧ wrd (sgn sg n i) (sgn sg n (i + 1)) (sgn sg n (i + 2)) ≠ 3 := by
              unfold wrd
              repeat' split
              all_goals omega
            rw [et] at u8 u10
            rw [en] at u10
            refine hq h' ⟨f31.tr f', ?_, u9, fun z9 => ?_, u10⟩
            · rw [skT wl.2]; exact u8
            · simp only at z9; omega
          · rw [if_neg cw] at hq
            by_cases cd : dbl (sgn sg n i) (sgn sg n (i + 1)) ≠ 0
            · rw [if_pos cd] at hq
              have et : tkR (sgn sg n i) (sgn sg n (i + 1)) (sgn sg n (i + 2)) = dbl (sgn sg n i) (sgn sg n (i + 1)) := by unfold tkR; rw [if_neg cw, if_pos cd]
              have en : tkN i (sgn sg n i) (sgn sg n (i + 1)) = i + 2 := by unfold tkN; rw [if_neg cw, if_pos cd]
              have wl := dbl_lt (sgn sg n i) (sgn sg n (i + 1))
              rw [et] at u8 u10
              rw [en] at u10
              refine hq h' ⟨f31.tr f', ?_, u9, fun z9 => ?_, u10⟩
              · rw [skT wl.2.2]; exact u8
              · simp only at z9; omega
            · rw [if_neg cd] at hq
              have et : tkR (sgn sg n i) (sgn sg n (i + 1)) (sgn sg n (i + 2)) = sng (sgn sg n i) := by unfold tkR; rw [if_neg cw, if_neg cd]
              have en : tkN i (sgn sg n i) (sgn sg n (i + 1)) = i + 1 := by unfold tkN; rw [if_neg cw, if_neg cd]
              have wl : sng (sgn sg n i) ≠ 2 ∧ sng (sgn sg n i) ≠ 3 := sng_ne ha
              rw [et] at u8 u10
              rw [en] at u10
              refine hq h' ⟨f31.tr f', ?_, u9, fun z9 => ?_, u10⟩
              · rw [skT wl.2]; exact u8
              · simp only at z9; omega
      refine ⟨fun c => g338 (fun z9 => c z9.1), fun c => sp_M_isDigit a31 (by omega) ?_⟩
      rw [if_pos c] at hq
      rw [w9, show nI i + 2 = nI (i + 2) from nI_add i 2]
      refine ⟨fun z2 => g338 (fun z9 => by rw [b01f] at z2; rw [z2] at z9; cases z9.2), fun z2 => sp_M_isDigit a31 (by omega) ?_⟩
      have d1 : isDg (sgn sg n (i + 1)) = true := by
        cases zz : isDg (sgn sg n (i + 1)) with
        | true => rfl
        | false => rw [zz] at z2; exact absurd rfl z2
      rw [if_pos d1] at hq
      have d1' := isDg_iff.mp d1
      rw [w9, show nI i + 2 = nI (i + 2) from nI_add i 2, show nI i + 3 = nI (i + 3) from nI_add i 3]
      refine ⟨fun z3 => ?_, fun z3 => ?_⟩
      · have d2 : isDg (sgn sg n (i + 2)) = false := b01f.mp z3
        rw [if_neg (by rw [d2]; decide)] at hq
        unfold b_M_next_265
        intro h12 g12
        have f12 : FK keepT h h12 := by rw [g12]; exact f31.zi nkT
        have v9 : h12.1 39 9 = nI i := by rw [g12]; simp [zi1]; exact w9
        have v10 : h12.1 39 10 = nI (i + 2) := by rw [g12]; simp [zi1]
        have v11 : h12.2.1 39 11 = jL ((0 : Nat) : Int) := by rw [g12]; exact w11
        rw [v9, nI_1]
        refine ⟨2, sp_nx275 (y := i + 2) (a.t f12) (by omega) (by omega) (by omega) v10 v11 d1 ?_⟩
        have f13 : FK keepT h (zl h12 39 11 (jL ((0 * 10 + (sgn sg n (i + 1) - 48) : Nat) : Int))) := f12.zl nkT
        refine sp_nx275e (v := 0 * 10 + (sgn sg n (i + 1) - 48)) (a.t f13) (by omega) (by omega) (by rw [zl1]; exact v10) (by simp [zl2]) ?_
        refine hq _ ⟨f13.zi nkT, ?_, by simp [zi1, zl1]; exact v9, fun _ => by simp [zi2, zl2], fun _ => by simp [zi1, zl1]; exact v10⟩
        unfold tkM
        simp only [Nat.zero_mul, Nat.zero_add, true_and]
        simp [zi1]
      · have d2 : isDg (sgn sg n (i + 2)) = true := by
          cases zz : isDg (sgn sg n (i + 2)) with
          | true => rfl
          | false => rw [zz] at z3; exact absurd rfl z3
        have d2' := isDg_iff.mp d2
        rw [if_pos d2] at hq
        unfold b_M_next_265
        intro h12 g12
        have f12 : FK keepT h h12 := by rw [g12]; exact f31.zi nkT
        have v9 : h12.1 39 9 = nI i := by rw [g12]; simp [zi1]; exact w9
        have v10 : h12.1 39 10 = nI (i + 3) := by rw [g12]; simp [zi1]
        have v11 : h12.2.1 39 11 = jL ((0 : Nat) : Int) := by rw [g12]; exact w11
        rw [v9, nI_1]
        refine ⟨3, sp_nx275 (y := i + 3) (a.t f12) (by omega) (by omega) (by omega) v10 v11 d1 ?_⟩
        have f13 : FK keepT h (zl h12 39 11 (jL ((0 * 10 + (sgn sg n (i + 1) - 48) : Nat) : Int))) := f12.zl nkT
        refine sp_nx275 (y := i + 3) (v := 0 * 10 + (sgn sg n (i + 1) - 48)) (a.t f13) (by omega) (by omega) (by omega) (by rw [zl1]; exact v10) (by simp [zl2]) d2 ?_
        have f14 := FK.zl (K := keepT) (k := 39) (j := 11) (x := jL (((0 * 10 + (sgn sg n (i + 1) - 48)) * 10 + (sgn sg n (i + 2) - 48) : Nat) : Int)) f13 nkT
        refine sp_nx275e (v := (0 * 10 + (sgn sg n (i + 1) - 48)) * 10 + (sgn sg n (i + 2) - 48)) (a.t f14) (by omega) (by omega) (by rw [zl1, zl1]; exact v10) (by simp [zl2]) ?_
        refine hq _ ⟨f14.zi nkT, ?_, by simp [zi1, zl1]; exact v9, fun _ => by simp [zi2, zl2], fun _ => by simp [zi1, zl1]; exact v10⟩
        unfold tkM
        simp only [Nat.zero_mul, Nat.zero_add, true_and]
        simp [zi1]
    · have d0 : isDg (sgn sg n i) = true := by
        cases zz : isDg (sgn sg n i) with
        | true => rfl
        | false => rw [zz] at z; exact absurd rfl z
      rw [if_pos d0] at hq
      have f38 : FK keepT h h38 := by rw [g38]; exact f31.zi nkT
      refine ⟨n + 1, sp_nx115 (sg := sg) (n := n) (nv := nv) (i := i) hi n 0 h38 (by omega) (by omega) (a.t f38) (by rw [g38]; simp [zi1]; exact w9) (by rw [g38]; simp [zi1]) (fun j hj => absurd hj (by omega)) (fun _ => by rw [g38, zi2]; exact w11) (fun h' f' u8 u9 u11 u10 => ?_)⟩
      rw [Nat.add_zero] at u8 u11 u10
      by_cases df : dgF sg i (dgE sg n n i)
      · rw [dgT_y df] at u8
        have df' := df
        unfold dgF at df'
        rw [if_pos df'] at hq
        exact hq h' ⟨f38.tr f', u8, u9, fun _ => u11 df, fun _ => u10⟩
      · rw [dgT_n df] at u8
        have df' := df
        unfold dgF at df'
        rw [if_neg df'] at hq
        exact hq h' ⟨f38.tr f', u8, u9, fun z9 => by simp only at z9; omega, fun z9 => absurd rfl z9⟩
  · rw [if_pos (by omega)] at hq
    unfold b_M_next_648
    have w9' : h39.1 39 9 = nI i := by rw [g39]; simp [zi1]; exact w9
    rw [w9'] at g40
    rw [g40, g39]
    exact hq _ ⟨(f31.zi nkT).zi nkT, by simp [zi1]; rfl, by simp [zi1]; exact w9, fun z => by simp only at z; omega, fun _ => by simp [zi1]⟩
