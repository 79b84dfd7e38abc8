theorem cs_lt {sg : Nat → Nat} {n i : Nat} (h : i < n) : cs sg n i = nI (sg i) ∧ sgn sg n i = sg i := ⟨by unfold cs; rw [if_pos h], by unfold sgn; rw [if_pos h]⟩
theorem dg_in {sg : Nat → Nat} {n i : Nat} (h : isDg (sgn sg n i) = true) : i < n ∧ isDg (sg i) = true := by
  unfold sgn at h
  by_cases c : i < n
  · rw [if_pos c] at h; exact ⟨c, h⟩
  · rw [if_neg c] at h; exact absurd h (by decide)
/-- what Tokens.advance leaves -/
def Adv (h h' : zH) (t : Tk) : Prop := fr [30] h h' ∧ KT h' t ∧ KN h' t ∧ TkOk t ∧ h'.1 30 1 = nI t.2.2.2
set_option maxHeartbeats 1000000 in
theorem sp_K_readVariable {sg : Nat → Nat} {n i : Nat} {h0 h : zH} {post : zH → Prop} (f0 : fr [30] h0 h) (hi : i ≤ 1000) (hR : RS h sg n) (hp : h.1 30 1 = nI i) (hpl : h.1 30 3 = nI i)
    (hq : ∀ h', Adv h0 h' (if isDg (sgn sg n (i + 1)) = true then (if isDg (sgn sg n (i + 2)) = true then (3, i, (sgn sg n (i + 1) - 48) * 10 + (sgn sg n (i + 2) - 48), i + 3) else (3, i, sgn sg n (i + 1) - 48, i + 2)) else (0, i, 0, i)) → post h') : wp_K_readVariable h post := by
  unfold wp_K_readVariable b_K_readVariable_97
  refine sp_A_signAt (sp_A_signAt ?_)
  rw [hp, nI_1, show (2 : Int32) = nI 2 from rfl, nI_add, sign_cs hR (by omega), sign_cs hR (by omega)]
  refine sp_isDigit hR ⟨fun q => ?_, fun q => ?_⟩
  · have d1 : isDg (sgn sg n (i + 1)) = true := by
      cases e : isDg (sgn sg n (i + 1)) with
      | true => rfl
      | false => rw [e] at q; exact absurd rfl q
    obtain ⟨l1, d1'⟩ := dg_in d1
    have b1 := isDg_b d1'
    obtain ⟨c1, c2⟩ := cs_lt (sg := sg) l1
    rw [if_pos d1] at hq
    intro h7 e7 h8 e8 h9 e9
    rw [c1, show (48 : Int32) = nI 48 from rfl, nI_sub b1.1] at e8
    have e81 : h8.1 30 1 = nI i := by rw [e8, e7]; simp [zi1, hp]
    rw [e81, nI_add] at e9
    have f9 : fr [30] h0 h9 := by rw [e9, e8, e7]; exact ((f0.zi (by simp)).zi (by simp)).zi (by simp)
    refine sp_isDigit hR ⟨fun z => ?_, fun z => ?_⟩
    · have d2 : ¬ isDg (sgn sg n (i + 2)) = true := by
        intro e; rw [e] at z; exact absurd z (by decide)
      rw [if_neg d2] at hq
      refine hq h9 ⟨f9, ⟨?_, ?_, by simp, ?_⟩, ?_, ⟨by simp, ?_, ?_⟩, ?_⟩
      · rw [e9, e8, e7]; simp [zi1, nI]
      · rw [e9, e8, e7]; simp [zi1, hpl]
      · show i < 100000; omega
      · intro _; rw [e9, e8]; simp only [c2]; simp [zi1]
      · show i < 100000; omega
      · show sgn sg n (i + 1) - 48 ≤ 2000000000; rw [c2]; omega
      · rw [e9]; simp [zi1]
    · have d2 : isDg (sgn sg n (i + 2)) = true := by
        cases e : isDg (sgn sg n (i + 2)) with
        | true => rfl
        | false => rw [e] at z; exact absurd rfl z
      obtain ⟨l2, d2'⟩ := dg_in d2
      have b2 := isDg_b d2'
      obtain ⟨c3, c4⟩ := cs_lt (sg := sg) l2
      rw [if_pos d2] at hq
      intro h12 e12 h13 e13
      have e94 : h9.1 30 4 = nI (sg (i + 1) - 48) := by rw [e9, e8]; simp [zi1]
      have e10 : nI (sg (i + 1) - 48) * 10 = nI ((sg (i + 1) - 48) * 10) := by
        rw [show (10 : Int32) = nI 10 from rfl]
        exact (Int32.ofNat_mul _ _).symm
      rw [e94, c3, show (48 : Int32) = nI 48 from rfl, nI_sub b2.1, e10, nI_add] at e12
      have e121 : h12.1 30 1 = nI (i + 2) := by rw [e12, e9]; simp [zi1]
      rw [e121, nI_1] at e13
      refine hq h13 ⟨?_, ⟨?_, ?_, by simp, ?_⟩, ?_, ⟨by simp, ?_, ?_⟩, ?_⟩
      · rw [e13, e12]; exact (f9.zi (by simp)).zi (by simp)
      · rw [e13, e12, e9, e8, e7]; simp [zi1, nI]
      · rw [e13, e12, e9, e8, e7]; simp [zi1, hpl]
      · show i < 100000; omega
      · intro _; rw [e13, e12]; simp only [c2, c4]; simp [zi1]
      · show i < 100000; omega
      · show (sgn sg n (i + 1) - 48) * 10 + (sgn sg n (i + 2) - 48) ≤ 2000000000; rw [c2, c4]; omega
      · rw [e13]; simp [zi1]
  · have d1 : ¬ isDg (sgn sg n (i + 1)) = true := by
      intro e; rw [e] at q; exact absurd q (by decide)
    rw [if_neg d1] at hq
    intro h14 e14
    refine hq h14 ⟨by rw [e14]; exact f0.zi (by simp), ⟨?_, ?_, by simp, ?_⟩, ?_, ⟨by simp, ?_, by simp⟩, ?_⟩
    · rw [e14]; simp [zi1, nI]
    · rw [e14]; simp [zi1, hpl]
    · show i < 100000; omega
    · intro z; simp at z
    · show i < 100000; omega
    · rw [e14]; simp [zi1, hp]
theorem spl {h : zH} {sg : Nat → Nat} {n i a b c : Nat} (hR : RS h sg n) (hi : i ≤ 1000) (ha : 0 < a ∧ a < 200) (hb : 0 < b ∧ b < 200) (hc : 0 < c ∧ c < 200) : fSpells h (nI i) [nI a, nI b, nI c] 0 = if sgn sg n i = a ∧ sgn sg n (i + 1) = b ∧ sgn sg n (i + 2) = c then 1 else 0 := by
  unfold fSpells fSpells fSpells fSpells
  rw [show (0 : Int32) = nI 0 from rfl, show nI 0 + 1 = nI 1 from rfl, show nI 1 + 1 = nI 2 from rfl, nI_add, nI_add, nI_add, Nat.add_zero, sign_cs hR (by omega), sign_cs hR (by omega), sign_cs hR (by omega)]
  by_cases q1 : sgn sg n i = a
  · rw [if_pos ((cs_nI hR (by omega) (by omega)).mpr q1)]
    by_cases q2 : sgn sg n (i + 1) = b
    · rw [if_pos ((cs_nI hR (by omega) (by omega)).mpr q2)]
      by_cases q3 : sgn sg n (i + 2) = c
      · rw [if_pos ((cs_nI hR (by omega) (by omega)).mpr q3), if_pos ⟨q1, q2, q3⟩]
      · rw [if_neg (fun z => q3 ((cs_nI hR (by omega) (by omega)).mp z)), if_neg (fun z => q3 z.2.2)]
    · rw [if_neg (fun z => q2 ((cs_nI hR (by omega) (by omega)).mp z)), if_neg (fun z => q2 z.2.1)]
  · rw [if_neg (fun z => q1 ((cs_nI hR (by omega) (by omega)).mp z)), if_neg (fun z => q1 z.1)]
theorem wrd_lt (a b c : Nat) : wrd a b c < 26 ∧ wrd a b c ≠ 2 ∧ wrd a b c ≠ 3 := by unfold wrd; split <;> (try split) <;> (try split) <;> omega
theorem sp_K_readWord {sg : Nat → Nat} {n i : Nat} {h0 h : zH} {post : zH → Prop} (f0 : fr [30] h0 h) (hi : i ≤ 1000) (hR : RS h sg n) (hp : h.1 30 1 = nI i) (hpl : h.1 30 3 = nI i)
    (hq : ∀ h', Adv h0 h' (wrd (sgn sg n i) (sgn sg n (i + 1)) (sgn sg n (i + 2)), i, 0, i + 3) → post h') : wp_K_readWord h post := by
  unfold wp_K_readWord b_K_readWord_80
  rw [hp]
  have fin : ∀ w : Nat, wrd (sgn sg n i) (sgn sg n (i + 1)) (sgn sg n (i + 2)) = w → ∀ h8 : zH, h8 = zi h 30 2 (nI w) → ∀ h1 : zH, h1 = zi h8 30 1 (h8.1 30 1 + 3) → post h1 := by
    intro w hw h8 e8 h1 e1
    have e81 : h8.1 30 1 = nI i := by rw [e8]; simp [zi1, hp]
    rw [e81, show (3 : Int32) = nI 3 from rfl, nI_add] at e1
    have wl := wrd_lt (sgn sg n i) (sgn sg n (i + 1)) (sgn sg n (i + 2))
    rw [hw] at hq wl
    refine hq h1 ⟨by rw [e1, e8]; exact (f0.zi (by simp)).zi (by simp), ⟨?_, ?_, wl.1, ?_⟩, ?_, ⟨wl.1, ?_, by show (0 : Nat) ≤ _; omega⟩, ?_⟩
    · rw [e1, e8]; simp [zi1]
    · rw [e1, e8]; simp [zi1, hpl]
    · show i < 100000; omega
    · intro z; have z' : w = 2 ∨ w = 3 := z; omega
    · show i < 100000; omega
    · rw [e1]; simp [zi1]
  have s0 := spl (a := 109) (b := 105) (c := 110) hR hi (by omega) (by omega) (by omega)
  have s1 := spl (a := 109) (b := 97) (c := 120) hR hi (by omega) (by omega) (by omega)
  have s2 := spl (a := 97) (b := 98) (c := 115) hR hi (by omega) (by omega) (by omega)
  refine ⟨by decide, ?_⟩
  show (fSpells h (nI i) [nI 109, nI 105, nI 110] 0 = 0 → _) ∧ (¬ fSpells h (nI i) [nI 109, nI 105, nI 110] 0 = 0 → _)
  rw [s0]
  by_cases c0 : sgn sg n i = 109 ∧ sgn sg n (i + 1) = 105 ∧ sgn sg n (i + 2) = 110
  · rw [if_pos c0]
    exact ⟨fun q => absurd q (by decide), fun _ => fin 23 (by unfold wrd; rw [if_pos c0])⟩
  · rw [if_neg c0]
    refine ⟨fun _ => ⟨by decide, ?_⟩, fun q => absurd rfl q⟩
    rw [hp]
    show (fSpells h (nI i) [nI 109, nI 97, nI 120] 0 = 0 → _) ∧ (¬ fSpells h (nI i) [nI 109, nI 97, nI 120] 0 = 0 → _)
    rw [s1]
    by_cases c1 : sgn sg n i = 109 ∧ sgn sg n (i + 1) = 97 ∧ sgn sg n (i + 2) = 120
    · rw [if_pos c1]
      exact ⟨fun q => absurd q (by decide), fun _ => fin 24 (by unfold wrd; rw [if_neg c0, if_pos c1])⟩
    · rw [if_neg c1]
      refine ⟨fun _ => ⟨by decide, ?_⟩, fun q => absurd rfl q⟩
      rw [hp]
      show (fSpells h (nI i) [nI 97, nI 98, nI 115] 0 = 0 → _) ∧ (¬ fSpells h (nI i) [nI 97, nI 98, nI 115] 0 = 0 → _)
      rw [s2]
      by_cases c2 : sgn sg n i = 97 ∧ sgn sg n (i + 1) = 98 ∧ sgn sg n (i + 2) = 115
      · rw [if_pos c2]
        exact ⟨fun q => absurd q (by decide), fun _ => fin 25 (by unfold wrd; rw [if_neg c0, if_neg c1, if_pos c2])⟩
      · rw [if_neg c2]
        exact ⟨fun _ => fin 0 (by unfold wrd; rw [if_neg c0, if_neg c1, if_neg c2]), fun q => absurd rfl q⟩
theorem sp_K_doubleMark {h h0 : zH} {sg : Nat → Nat} {n i j : Nat} {post : Int32 → zH → Prop} (hR : RS h sg n) (hp : post (nI (dbl (sgn sg n i) (sgn sg n j))) h0) : wp_K_doubleMark (cs sg n i) (cs sg n j) h0 post := by
  unfold wp_K_doubleMark b_K_doubleMark_15 b_K_doubleMark_30
  have L : ∀ (i d : Nat), 0 < d → d < 2147483648 → (cs sg n i = nI d ↔ sgn sg n i = d) := fun i d a b => cs_nI hR a b
  rw [show (38 : Int32) = nI 38 from rfl, show (124 : Int32) = nI 124 from rfl, show (61 : Int32) = nI 61 from rfl, show (60 : Int32) = nI 60 from rfl, show (62 : Int32) = nI 62 from rfl, show (33 : Int32) = nI 33 from rfl]
  rw [L i 38 (by decide) (by decide), L j 38 (by decide) (by decide), L i 124 (by decide) (by decide), L j 124 (by decide) (by decide), L j 61 (by decide) (by decide), L i 33 (by decide) (by decide), L i 60 (by decide) (by decide), L i 61 (by decide) (by decide), L i 62 (by decide) (by decide)]
  generalize sgn sg n i = a at hp
  generalize sgn sg n j = b at hp
  have p30 : ¬ (a = 38 ∧ b = 38) → ¬ (a = 124 ∧ b = 124) → (b = 61 → (a = 33 → post 19 h0) ∧ (¬ a = 33 → (a = 60 → post 15 h0) ∧ (¬ a = 60 → (a = 61 → post 18 h0) ∧ (¬ a = 61 → (a = 62 → post 17 h0) ∧ (¬ a = 62 → post 0 h0))))) ∧ (¬ b = 61 → post 0 h0) := by
    intro z1 z2
    unfold dbl at hp
    rw [if_neg z1, if_neg z2] at hp
    refine ⟨fun q => ?_, fun q => by rw [if_neg q] at hp; exact hp⟩
    rw [if_pos q] at hp
    refine ⟨fun y => by subst y; exact hp, fun y1 => ⟨fun y => by subst y; exact hp, fun y2 => ⟨fun y => by subst y; exact hp, fun y3 => ⟨fun y => by subst y; exact hp, fun y4 => ?_⟩⟩⟩⟩
    rw [if_neg y2, if_neg y4, if_neg y3, if_neg y1] at hp
    exact hp
  have p15 : ¬ (a = 38 ∧ b = 38) → (¬ a = 124 → (b = 61 → (a = 33 → post 19 h0) ∧ (¬ a = 33 → (a = 60 → post 15 h0) ∧ (¬ a = 60 → (a = 61 → post 18 h0) ∧ (¬ a = 61 → (a = 62 → post 17 h0) ∧ (¬ a = 62 → post 0 h0))))) ∧ (¬ b = 61 → post 0 h0)) ∧ (a = 124 → (¬ b = 124 → (b = 61 → (a = 33 → post 19 h0) ∧ (¬ a = 33 → (a = 60 → post 15 h0) ∧ (¬ a = 60 → (a = 61 → post 18 h0) ∧ (¬ a = 61 → (a = 62 → post 17 h0) ∧ (¬ a = 62 → post 0 h0))))) ∧ (¬ b = 61 → post 0 h0)) ∧ (b = 124 → post 22 h0)) := by
    intro z1
    refine ⟨fun q => p30 z1 (fun y => q y.1), fun q => ⟨fun y => p30 z1 (fun x => y x.2), fun y => ?_⟩⟩
    unfold dbl at hp
    rw [if_neg z1, if_pos ⟨q, y⟩] at hp
    exact hp
  refine ⟨fun q => p15 (fun y => q y.1), fun q => ⟨fun y => p15 (fun x => y x.2), fun y => ?_⟩⟩
  unfold dbl at hp
  rw [if_pos ⟨q, y⟩] at hp
  exact hp
theorem sng0 {a : Nat} (h : a ≠ 40 ∧ a ≠ 41 ∧ a ≠ 44 ∧ a ≠ 63 ∧ a ≠ 58 ∧ a ≠ 43 ∧ a ≠ 45 ∧ a ≠ 42 ∧ a ≠ 47 ∧ a ≠ 37 ∧ a ≠ 60 ∧ a ≠ 62 ∧ a ≠ 33) : sng a = 0 := by
  unfold sng
  obtain ⟨h1, h2, h3, h4, h5, h6, h7, h8, h9, h10, h11, h12, h13⟩ := h
  rw [if_neg h1, if_neg h2, if_neg h3, if_neg h4, if_neg h5, if_neg h6, if_neg h7, if_neg h8, if_neg h9, if_neg h10, if_neg h11, if_neg h12, if_neg h13]
set_option maxHeartbeats 2000000 in
theorem sp_K_singleMark {a : Nat} {h0 : zH} {post : Int32 → zH → Prop} (ha : a < 2147483648) (hp : post (nI (sng a)) h0) : wp_K_singleMark (nI a) h0 post := by
  unfold wp_K_singleMark b_K_singleMark_177
  have N : ∀ d : Nat, d < 2147483648 → (nI a = nI d ↔ a = d) := fun d hd => nI_eq ha hd
  have Y : ∀ d v : Nat, d < 2147483648 → sng d = v → nI a = nI d → post (nI v) h0 := by
    intro d v hd e q
    rw [(N d hd).mp q, e] at hp; exact hp
  have Z : ∀ d : Nat, d < 2147483648 → ¬ nI a = nI d → a ≠ d := fun d hd q e => q ((N d hd).mpr e)
  refine ⟨Y 33 20 (by decide) rfl, fun q33 => ⟨Y 34 0 (by decide) rfl, fun _ => ⟨Y 35 0 (by decide) rfl, fun _ => ⟨Y 36 0 (by decide) rfl, fun _ => ⟨Y 37 13 (by decide) rfl, fun q37 => ⟨Y 38 0 (by decide) rfl, fun _ => ⟨Y 39 0 (by decide) rfl, fun _ => ⟨Y 40 4 (by decide) rfl, fun q40 => ⟨Y 41 5 (by decide) rfl, fun q41 => ⟨Y 42 11 (by decide) rfl, fun q42 => ⟨Y 43 9 (by decide) rfl, fun q43 => ⟨Y 44 6 (by decide) rfl, fun q44 => ⟨Y 45 10 (by decide) rfl, fun q45 => ⟨Y 46 0 (by decide) rfl, fun _ => ⟨Y 47 12 (by decide) rfl, fun q47 => ⟨Y 48 0 (by decide) rfl, fun _ => ⟨Y 49 0 (by decide) rfl, fun _ => ⟨Y 50 0 (by decide) rfl, fun _ => ⟨Y 51 0 (by decide) rfl, fun _ => ⟨Y 52 0 (by decide) rfl, fun _ => ⟨Y 53 0 (by decide) rfl, fun _ => ⟨Y 54 0 (by decide) rfl, fun _ => ⟨Y 55 0 (by decide) rfl, fun _ => ⟨Y 56 0 (by decide) rfl, fun _ => ⟨Y 57 0 (by decide) rfl, fun _ => ⟨Y 58 8 (by decide) rfl, fun q58 => ⟨Y 59 0 (by decide) rfl, fun _ => ⟨Y 60 14 (by decide) rfl, fun q60 => ⟨Y 61 0 (by decide) rfl, fun _ => ⟨Y 62 16 (by decide) rfl, fun q62 => ⟨Y 63 7 (by decide) rfl, fun q63 => ?_⟩⟩⟩⟩⟩⟩⟩⟩⟩⟩⟩⟩⟩⟩⟩⟩⟩⟩⟩⟩⟩⟩⟩⟩⟩⟩⟩⟩⟩⟩⟩
  rw [sng0 ⟨Z 40 (by decide) q40, Z 41 (by decide) q41, Z 44 (by decide) q44, Z 63 (by decide) q63, Z 58 (by decide) q58, Z 43 (by decide) q43, Z 45 (by decide) q45, Z 42 (by decide) q42, Z 47 (by decide) q47, Z 37 (by decide) q37, Z 60 (by decide) q60, Z 62 (by decide) q62, Z 33 (by decide) q33⟩] at hp
  exact hp
theorem dbl_lt (a b : Nat) : dbl a b < 26 ∧ dbl a b ≠ 2 ∧ dbl a b ≠ 3 := by unfold dbl; repeat' split
                                                                            all_goals omega
theorem sng_lt (a : Nat) : sng a < 26 ∧ sng a ≠ 2 ∧ sng a ≠ 3 := by unfold sng; repeat' split
                                                                    all_goals omega
theorem sp_K_readMark {sg : Nat → Nat} {n i : Nat} {h0 h : zH} {post : zH → Prop} (f0 : fr [30] h0 h) (hi : i ≤ 1000) (hin : i < n) (hR : RS h sg n) (hp : h.1 30 1 = nI i) (hpl : h.1 30 3 = nI i)
    (hq : ∀ h', Adv h0 h' (if dbl (sgn sg n i) (sgn sg n (i + 1)) ≠ 0 then (dbl (sgn sg n i) (sgn sg n (i + 1)), i, 0, i + 2) else (sng (sgn sg n i), i, 0, i + 1)) → post h') : wp_K_readMark h post := by
  unfold wp_K_readMark b_K_readMark_68
  refine sp_A_signAt (sp_A_signAt ?_)
  rw [hp, nI_1, sign_cs hR (by omega), sign_cs hR (by omega)]
  refine sp_K_doubleMark hR ?_
  obtain ⟨c1, c2⟩ := cs_lt (sg := sg) hin
  have dl := dbl_lt (sgn sg n i) (sgn sg n (i + 1))
  have sl := sng_lt (sgn sg n i)
  have sb := (hR.2.2 i hin).2
  generalize dbl (sgn sg n i) (sgn sg n (i + 1)) = d at hq dl
  intro h7 e7 h8 e8
  have e71 : h7.1 30 1 = nI i := by rw [e7]; simp [zi1, hp]
  rw [e71, show (2 : Int32) = nI 2 from rfl, nI_add] at e8
  have e82 : h8.1 30 2 = nI d := by rw [e8, e7]; simp [zi1]
  have e81 : h8.1 30 1 = nI (i + 2) := by rw [e8]; simp [zi1]
  have e83 : h8.1 30 3 = nI i := by rw [e8, e7]; simp [zi1, hpl]
  have f8 : fr [30] h0 h8 := by rw [e8, e7]; exact (f0.zi (by simp)).zi (by simp)
  rw [e82, show (0 : Int32) = nI 0 from rfl, nI_eq (by omega) (by decide)]
  refine ⟨fun q => ?_, fun q => ?_⟩
  · rw [if_pos q] at hq
    refine hq h8 ⟨f8, ⟨e82, e83, dl.1, ?_⟩, ?_, ⟨dl.1, ?_, by show (0 : Nat) ≤ _; omega⟩, e81⟩
    · show i < 100000; omega
    · intro z; have z' : d = 2 ∨ d = 3 := z; omega
    · show i < 100000; omega
  · rw [if_neg (fun z => z q)] at hq
    rw [c1]
    refine sp_K_singleMark (by omega) ?_
    rw [c2] at hq sl
    intro h11 e11 h12 e12
    have e111 : h11.1 30 1 = nI (i + 2) := by rw [e11]; simp [zi1, e81]
    rw [e111, show (1 : Int32) = nI 1 from rfl, nI_sub (by omega)] at e12
    refine hq h12 ⟨by rw [e12, e11]; exact (f8.zi (by simp)).zi (by simp), ⟨?_, ?_, sl.1, ?_⟩, ?_, ⟨sl.1, ?_, by show (0 : Nat) ≤ _; omega⟩, ?_⟩
    · rw [e12, e11]; simp [zi1]
    · rw [e12, e11]; simp [zi1, e83]
    · show i < 100000; omega
    · intro z; have z' : sng (sg i) = 2 ∨ sng (sg i) = 3 := z; omega
    · show i < 100000; omega
    · rw [e12]; simp [zi1]
set_option maxHeartbeats 1000000 in
theorem sp_K_advance {sg : Nat → Nat} {n i0 : Nat} {h : zH} {post : zH → Prop} (hi : i0 ≤ 600) (hR : RS h sg n) (hp : h.1 30 1 = nI i0) (hq : ∀ h', Adv h h' (tok sg n i0) → post h') : wp_K_advance h post := by
  unfold wp_K_advance b_K_advance_76 b_K_advance_87
  have h4 := hR.2.1
  refine ⟨n + 1, sp_skip (sg := sg) (n := n) n i0 h (by omega) hR hp (by omega) ?_⟩
  intro h1 f1 p1 h5 e5
  have sr := skp_rng (sg := sg) (n := n) n i0
  have tk : tok sg n i0 = if n ≤ skp sg n n i0 then (1, skp sg n n i0, 0, skp sg n n i0)
      else if isDg (sgn sg n (skp sg n n i0)) = true then (if dgE sg n n (skp sg n n i0) - skp sg n n i0 ≤ 10 ∧ dgV sg (skp sg n n i0) (dgE sg n n (skp sg n n i0) - skp sg n n i0) ≤ 2000000000 then (2, skp sg n n i0, dgV sg (skp sg n n i0) (dgE sg n n (skp sg n n i0) - skp sg n n i0), dgE sg n n (skp sg n n i0)) else (0, skp sg n n i0, 0, dgE sg n n (skp sg n n i0)))
      else if sgn sg n (skp sg n n i0) = 118 then (if isDg (sgn sg n (skp sg n n i0 + 1)) = true then (if isDg (sgn sg n (skp sg n n i0 + 2)) = true then (3, skp sg n n i0, (sgn sg n (skp sg n n i0 + 1) - 48) * 10 + (sgn sg n (skp sg n n i0 + 2) - 48), skp sg n n i0 + 3) else (3, skp sg n n i0, sgn sg n (skp sg n n i0 + 1) - 48, skp sg n n i0 + 2)) else (0, skp sg n n i0, 0, skp sg n n i0))
      else if sgn sg n (skp sg n n i0) = 109 ∨ sgn sg n (skp sg n n i0) = 97 then (wrd (sgn sg n (skp sg n n i0)) (sgn sg n (skp sg n n i0 + 1)) (sgn sg n (skp sg n n i0 + 2)), skp sg n n i0, 0, skp sg n n i0 + 3)
      else if dbl (sgn sg n (skp sg n n i0)) (sgn sg n (skp sg n n i0 + 1)) ≠ 0 then (dbl (sgn sg n (skp sg n n i0)) (sgn sg n (skp sg n n i0 + 1)), skp sg n n i0, 0, skp sg n n i0 + 2) else (sng (sgn sg n (skp sg n n i0)), skp sg n n i0, 0, skp sg n n i0 + 1) := rfl
  generalize tok sg n i0 = t at hq tk
  generalize skp sg n n i0 = i at p1 sr tk
  rw [p1] at e5
  have f5 : fr [30] h h5 := by rw [e5]; exact f1.zi (by simp)
  have e51 : h5.1 30 1 = nI i := by rw [e5]; simp [zi1, p1]
  have e53 : h5.1 30 3 = nI i := by rw [e5]; simp [zi1]
  have R5 := hR.f30 f5
  refine sp_A_signAt ?_
  rw [e51, sign_cs R5 (by omega), cs_m1 R5]
  refine ⟨fun q => sp_isDigit R5 ?_, fun q h16 e16 => ?_⟩
  · rw [if_neg q] at tk
    rw [show (118 : Int32) = nI 118 from rfl, show (109 : Int32) = nI 109 from rfl, show (97 : Int32) = nI 97 from rfl, cs_nI R5 (by decide) (by decide), cs_nI R5 (by decide) (by decide), cs_nI R5 (by decide) (by decide)]
    refine ⟨fun z => ?_, fun z => ?_⟩
    · have dn : ¬ isDg (sgn sg n i) = true := by intro e; rw [e] at z; exact absurd z (by decide)
      rw [if_neg dn] at tk
      refine ⟨fun y => ?_, fun y => ?_⟩
      · rw [if_neg y] at tk
        have wd : (sgn sg n i = 109 ∨ sgn sg n i = 97) → wp_K_readWord h5 (fun h2 => post h2) := by
          intro x
          rw [if_pos x] at tk
          exact sp_K_readWord f5 (by omega) R5 e51 e53 (fun h' a => hq h' (by rw [tk]; exact a))
        refine ⟨fun x => wd (Or.inl x), fun x => ⟨fun x2 => ?_, fun x2 => wd (Or.inr x2)⟩⟩
        rw [if_neg (show ¬ (sgn sg n i = 109 ∨ sgn sg n i = 97) from fun w => w.elim x x2)] at tk
        exact sp_K_readMark f5 (by omega) (by omega) R5 e51 e53 (fun h' a => hq h' (by rw [tk]; exact a))
      · rw [if_pos y] at tk
        exact sp_K_readVariable f5 (by omega) R5 e51 e53 (fun h' a => hq h' (by rw [tk]; exact a))
    · have dn : isDg (sgn sg n i) = true := by
        cases e : isDg (sgn sg n i) with
        | true => rfl
        | false => rw [e] at z; exact absurd rfl z
      rw [if_pos dn] at tk
      have dr := dgE_ge (sg := sg) (n := n) n i
      refine sp_K_readDigits (by omega) R5 e51 ?_ ?_
      · intro F h' f' a1 a2 a3 a4
        unfold dgF at F
        rw [if_pos F] at tk
        refine hq h' ?_
        rw [tk]
        exact ⟨f5.tr f', ⟨a3, a2.trans e53, by simp, by show i < 100000; omega⟩, fun _ => a4, ⟨by simp, by show i < 100000; omega, F.2⟩, a1⟩
      · intro F h' f' a1 a2 a3
        unfold dgF at F
        rw [if_neg F] at tk
        refine hq h' ?_
        rw [tk]
        exact ⟨f5.tr f', ⟨a3, a2.trans e53, by simp, by show i < 100000; omega⟩, fun z => by simp at z, ⟨by simp, by show i < 100000; omega, by simp⟩, a1⟩
  · rw [if_pos q] at tk
    refine hq h16 ?_
    rw [tk]
    exact ⟨by rw [e16]; exact f5.zi (by simp), ⟨by rw [e16]; simp [zi1, nI], by rw [e16]; simp [zi1, e53], by simp, by show i < 100000; omega⟩, fun z => by simp at z, ⟨by simp, by show i < 100000; omega, by simp⟩, by rw [e16]; simp [zi1, e51]⟩
