theorem comb2_eq {c pl l r z : Nat} {t : List Nat} {ps : List Pt} (hc : (9 ≤ c ∧ c ≤ 19) ∨ c = 21 ∨ c = 22 ∨ c = 23 ∨ c = 24) (kl : pKd (pget ps l) < 2) (kr : pKd (pget ps r) < 2) : comb2 c pl (r :: l :: t) ps = cmb c pl l r z t ps := by
  have h7 : ¬ c = 7 := by omega
  have hu : ¬ (c = 20 ∨ c = 25 ∨ c = 26) := by omega
  unfold comb2 cmb
  dsimp only
  have hfit : fit2 c (pKd (pget ps l)) (pKd (pget ps r)) ↔ cFit c (pKd (pget ps l)) (pKd (pget ps r)) (pKd (pget ps z)) = true := by
    unfold fit2 cFit
    rw [if_neg h7]
    by_cases a : c = 18 ∨ c = 19
    · simp [a]
    · rw [if_neg a, if_neg a]
      by_cases b : c = 21 ∨ c = 22
      · have b2 : c = 20 ∨ c = 21 ∨ c = 22 := by omega
        rw [if_pos b, if_pos b2]; simp; omega
      · have b2 : ¬ (c = 20 ∨ c = 21 ∨ c = 22) := by omega
        rw [if_neg b, if_neg b2]; simp; omega
  have hrg : ∀ a b c' d, rgC c a b c' d = rg2 c a b c' d := by intro a b c' d; unfold rgC; rw [if_neg h7, if_neg hu]
  have hkg : kG c (pKd (pget ps r)) = kd2 c := by
    unfold kG kd2; rw [if_neg h7]
    by_cases a : c = 20 ∨ (14 ≤ c ∧ c ≤ 19) ∨ c = 21 ∨ c = 22
    · rw [if_pos a, if_neg (by omega)]
    · rw [if_neg a, if_pos (by omega)]
  have hD : dpC c ps l r z = 1 + max (pDp (pget ps l)) (pDp (pget ps r)) := by unfold dpC; rw [if_neg h7, Nat.add_comm]
  by_cases f : fit2 c (pKd (pget ps l)) (pKd (pget ps r))
  · have cf : ¬ cFit c (pKd (pget ps l)) (pKd (pget ps r)) (pKd (pget ps z)) = false := by rw [hfit.mp f]; decide
    rw [if_neg (show ¬ ¬ fit2 c (pKd (pget ps l)) (pKd (pget ps r)) from fun q => q f), if_neg cf, hrg]
    unfold mkP
    rw [if_neg h7, if_neg hu, hkg, hD]
  · rw [if_pos (show ¬ fit2 c (pKd (pget ps l)) (pKd (pget ps r)) from f), if_pos (show cFit c (pKd (pget ps l)) (pKd (pget ps r)) (pKd (pget ps z)) = false by
      cases h : cFit c (pKd (pget ps l)) (pKd (pget ps r)) (pKd (pget ps z)) with
      | false => rfl
      | true => exact absurd (hfit.mpr h) f)]
theorem comb1_eq {c pl r z : Nat} {t : List Nat} {ps : List Pt} (hc : c = 20 ∨ c = 25 ∨ c = 26) (kr : pKd (pget ps r) < 2) (b1 : wi (pLo (pget ps r))) (b2 : wi (pHi (pget ps r))) : comb1 c pl (r :: t) ps = cmb c pl r r z t ps := by
  have h7 : ¬ c = 7 := by omega
  unfold comb1 cmb
  dsimp only
  have hcf : cFit c (pKd (pget ps r)) (pKd (pget ps r)) (pKd (pget ps z)) = decide (pKd (pget ps r) = if c = 20 then 1 else 0) := by
    unfold cFit
    rw [if_neg (show ¬ (c = 18 ∨ c = 19) by omega), if_neg h7]
    by_cases a : c = 20
    · rw [if_pos a, if_pos (show c = 20 ∨ c = 21 ∨ c = 22 by omega)]; simp
    · rw [if_neg a, if_neg (show ¬ (c = 20 ∨ c = 21 ∨ c = 22) by omega)]; simp
  have hrg : ∀ a b c' d, rgC c a b c' d = rg1 c c' d := by intro a b c' d; unfold rgC; rw [if_neg h7, if_pos hc]
  have hkg : kG c (pKd (pget ps r)) = if c = 20 then 1 else 0 := by
    unfold kG; rw [if_neg h7]
    by_cases a : c = 20
    · rw [if_pos (Or.inl a), if_pos a]
    · rw [if_neg (by omega), if_neg a]
  have hD : dpC c ps r r z = 1 + pDp (pget ps r) := by unfold dpC; rw [if_neg h7, Nat.max_self, Nat.add_comm]
  have hbe : ¬ ((rg1 c (pLo (pget ps r)) (pHi (pget ps r))).1 < -EG ∨ EG < (rg1 c (pLo (pget ps r)) (pHi (pget ps r))).2) := by
    unfold wi at b1 b2
    unfold EG
    rcases hc with rfl | rfl | rfl
    · show ¬ ((0 : Int) < -2000000000 ∨ (2000000000 : Int) < 1); omega
    · show ¬ ((if pLo (pget ps r) ≤ 0 ∧ 0 ≤ pHi (pget ps r) then (0 : Int) else min (ab (pLo (pget ps r))) (ab (pHi (pget ps r)))) < -2000000000 ∨ 2000000000 < max (ab (pLo (pget ps r))) (ab (pHi (pget ps r))))
      unfold ab; omega
    · show ¬ (-(pHi (pget ps r)) < -2000000000 ∨ 2000000000 < -(pLo (pget ps r))); omega
  rw [hcf]
  by_cases f : pKd (pget ps r) = if c = 20 then 1 else 0
  · rw [if_neg (show ¬ pKd (pget ps r) ≠ (if c = 20 then 1 else 0) from fun q => q f), if_neg (show ¬ decide (pKd (pget ps r) = if c = 20 then 1 else 0) = false from by rw [decide_eq_true f]; decide), if_neg (show ¬ ((c = 12 ∨ c = 13) ∧ pLo (pget ps r) ≤ 0 ∧ 0 ≤ pHi (pget ps r)) by omega), hrg, if_neg hbe]
    unfold mkP
    rw [if_neg h7, if_pos hc, hkg, hD]
  · rw [if_pos (show pKd (pget ps r) ≠ (if c = 20 then 1 else 0) from f), if_pos (show decide (pKd (pget ps r) = if c = 20 then 1 else 0) = false from decide_eq_false f)]
theorem comb3_eq {pl x y z : Nat} {t : List Nat} {ps : List Pt} (kx : pKd (pget ps x) < 2) (ky : pKd (pget ps y) < 2) (kz : pKd (pget ps z) < 2) (b1 : wi (pLo (pget ps y))) (b2 : wi (pHi (pget ps y))) (b3 : wi (pLo (pget ps z))) (b4 : wi (pHi (pget ps z))) : comb3 pl (z :: y :: x :: t) ps = cmb 7 pl y z x t ps := by
  unfold comb3 cmb
  dsimp only
  have hcf : cFit 7 (pKd (pget ps y)) (pKd (pget ps z)) (pKd (pget ps x)) = decide (¬ (pKd (pget ps x) ≠ 1 ∨ pKd (pget ps y) ≠ pKd (pget ps z))) := by
    unfold cFit; simp
    by_cases a : pKd (pget ps y) = pKd (pget ps z) <;> by_cases b : pKd (pget ps x) = 1 <;> simp [a, b]
  have hD : dpC 7 ps y z x = 1 + max (pDp (pget ps x)) (max (pDp (pget ps y)) (pDp (pget ps z))) := by unfold dpC; rw [if_pos rfl]; omega
  have hbe : ¬ ((rgC 7 (pLo (pget ps y)) (pHi (pget ps y)) (pLo (pget ps z)) (pHi (pget ps z))).1 < -EG ∨ EG < (rgC 7 (pLo (pget ps y)) (pHi (pget ps y)) (pLo (pget ps z)) (pHi (pget ps z))).2) := by
    show ¬ (min (pLo (pget ps y)) (pLo (pget ps z)) < -EG ∨ EG < max (pHi (pget ps y)) (pHi (pget ps z)))
    unfold wi at *
    unfold EG
    omega
  rw [hcf]
  by_cases f : pKd (pget ps x) ≠ 1 ∨ pKd (pget ps y) ≠ pKd (pget ps z)
  · rw [if_pos f, if_pos (show decide (¬ (pKd (pget ps x) ≠ 1 ∨ pKd (pget ps y) ≠ pKd (pget ps z))) = false from decide_eq_false (fun q => q f))]
  · have f2 : pKd (pget ps y) = pKd (pget ps z) := by omega
    rw [if_neg f, if_neg (show ¬ decide (¬ (pKd (pget ps x) ≠ 1 ∨ pKd (pget ps y) ≠ pKd (pget ps z))) = false by rw [decide_eq_true f]; decide), if_neg (show ¬ (((7 : Nat) = 12 ∨ (7 : Nat) = 13) ∧ pLo (pget ps z) ≤ 0 ∧ 0 ≤ pHi (pget ps z)) by omega), if_neg hbe]
    show addp t ps _ = addp t ps (7, pl, kG 7 (pKd (pget ps z)), min (pLo (pget ps y)) (pLo (pget ps z)), max (pHi (pget ps y)) (pHi (pget ps z)), x, y, z, dpC 7 ps y z x)
    rw [hD, f2]
    rfl
