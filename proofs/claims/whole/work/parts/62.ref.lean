def rk (op : Nat) : Nat := if 11 ≤ op ∧ op ≤ 13 then 6 else if op = 9 ∨ op = 10 then 5 else if 14 ≤ op ∧ op ≤ 19 then 4 else if op = 21 then 3 else if op = 22 then 2 else 0
theorem sp_M_rank {op : Nat} {h : zH} {post : Int32 → zH → Prop} (ho : op < 28) (hp : post (nI (rk op)) h) : wp_M_rank (nI (rop op)) h post := by
  revert hp
  refine c28 (P := fun op => post (nI (rk op)) h → wp_M_rank (nI (rop op)) h post) ho ?_
  unfold wp_M_rank b_M_rank_116 b_M_rank_119 b_M_rank_121 rk
  simp [nI, rop, ropL]
theorem sp_two63 {op : Nat} {l2 l3 l4 : Int32} {nb tb : Bool} {h : zH} {post : zH → Prop} (ho : op < 28)
    (hbad : (if op = 18 ∨ op = 19 then nb || tb else if op = 21 ∨ op = 22 then tb else nb) = false → b_M_doTwo_143 post l2 h)
    (hok : (if op = 18 ∨ op = 19 then nb || tb else if op = 21 ∨ op = 22 then tb else nb) = true → b_M_doTwo_150 post (nI (rop op)) l2 l3 l4 h) : b_M_doTwo_63 post (nI (rop op)) l2 l3 l4 (b01 nb) (b01 tb) h := by
  have e21 : nI (rop op) = 204 ↔ op = 21 := ropI 21 ho
  have e22 : nI (rop op) = 205 ↔ op = 22 := ropI 22 ho
  have e18 : nI (rop op) = 202 ↔ op = 18 := ropI 18 ho
  have e19 : nI (rop op) = 203 ↔ op = 19 := ropI 19 ho
  have b1 : b01 true = 1 := rfl
  have b0 : b01 false = 0 := rfl
  unfold b_M_doTwo_63 b_M_doTwo_79 b_M_doTwo_84 b_M_doTwo_100 b_M_doTwo_105
  simp only [e21, e22, e18, e19]
  generalize b_M_doTwo_143 post l2 h = B at *
  generalize b_M_doTwo_150 post (nI (rop op)) l2 l3 l4 h = G at *
  clear e21 e22 e18 e19
  by_cases c18 : op = 18 ∨ op = 19
  · have n1 : ¬ op = 21 := by omega
    have n2 : ¬ op = 22 := by omega
    simp only [if_pos c18] at hbad hok
    by_cases d : op = 18
    · cases nb <;> cases tb <;> simp [b1, b0, n1, n2, d] <;> simp at hbad hok <;> assumption
    · have d2 : op = 19 := by omega
      cases nb <;> cases tb <;> simp [b1, b0, d2] <;> simp at hbad hok <;> assumption
  · have n1 : ¬ op = 18 := by omega
    have n2 : ¬ op = 19 := by omega
    simp only [if_neg c18] at hbad hok
    by_cases c21 : op = 21 ∨ op = 22
    · simp only [if_pos c21] at hbad hok
      by_cases d : op = 21
      · cases nb <;> cases tb <;> simp [b1, b0, n1, n2, d] <;> simp at hbad hok <;> assumption
      · have d2 : op = 22 := by omega
        cases nb <;> cases tb <;> simp [b1, b0, d2] <;> simp at hbad hok <;> assumption
    · have m1 : ¬ op = 21 := by omega
      have m2 : ¬ op = 22 := by omega
      simp only [if_neg c21] at hbad hok
      cases nb <;> cases tb <;> simp [b1, b0, n1, n2, m1, m2] <;> simp at hbad hok <;> assumption
/-- the range, then the part -/
noncomputable def aft (op pl kd l r : Nat) (t : List Nat) (ps : List Pt) : Except Nat (List Nat × List Pt) :=
  let x := pget ps l
  let y := pget ps r
  let q := rg2 op (pLo x) (pHi x) (pLo y) (pHi y)
  if (op = 12 ∨ op = 13) ∧ pLo y ≤ 0 ∧ 0 ≤ pHi y then .error (3 + 8 * pl)
    else if q.1 < -EG ∨ EG < q.2 then .error (4 + 8 * pl)
    else addp t ps (op, pl, kd, q.1, q.2, l, r, 0, 1 + max (pDp x) (pDp y))
theorem RM.pt {h : zH} {σ : St} {i : Nat} (a : RM h σ) (hi : i < σ.2.2.length) : PtM h i (pget σ.2.2 i) := by
  have := a.2.2.2.2.2.2 i hi
  rw [Nat.zero_add] at this
  exact this
set_option maxHeartbeats 1000000 in
theorem sp_two173 {h : zH} {ws : List Fr} {t : List Nat} {ps : List Pt} {op pl kd l r : Nat} {post : zH → Prop} (a : RM h (ws, t, ps)) (hf : h.1 39 24 = 0) (ho : two op) (hB : Bas ps) (hlen : ps.length ≤ 100) (hw : ws.length ≤ 197) (ht : t.length ≤ 100) (hpl : pl < 100000) (hl : l < ps.length) (hr : r < ps.length)
    (hbad : ∀ e h', aft op pl kd l r t ps = .error e → BadM h h' e → post h')
    (hgood : ∀ q h', aft op pl kd l r t ps = .ok q → GoodM h h' (ws, q) → post h') : b_M_doTwo_173 post (nI (rop op)) (nI pl) (nI r) (nI l) (nI kd) h := by
  have ho' : op < 28 := by unfold two at ho; omega
  have e23 : nI (rop op) = 4 ↔ op = 23 := ropI 23 ho'
  have e24 : nI (rop op) = 5 ↔ op = 24 := ropI 24 ho'
  have e13 : nI (rop op) = 37 ↔ op = 13 := ropI 13 ho'
  have e11 : nI (rop op) = 42 ↔ op = 11 := ropI 11 ho'
  have e9 : nI (rop op) = 43 ↔ op = 9 := ropI 9 ho'
  have e10 : nI (rop op) = 45 ↔ op = 10 := ropI 10 ho'
  have e12 : nI (rop op) = 47 ↔ op = 12 := ropI 12 ho'
  obtain ⟨_, _, wa, wb, hab⟩ := hB l hl
  obtain ⟨_, _, wc, wd, hcd⟩ := hB r hr
  have pa : h.2.1 47 l = _ := (a.pt (i := l) hl).2.2.2.1
  have pb : h.2.1 48 l = _ := (a.pt (i := l) hl).2.2.2.2.1
  have pc : h.2.1 47 r = _ := (a.pt (i := r) hr).2.2.2.1
  have pd : h.2.1 48 r = _ := (a.pt (i := r) hr).2.2.2.2.1
  simp only at pa pb pc pd
  unfold aft at hbad hgood
  simp only at hbad hgood
  generalize pLo (pget ps l) = A at *
  generalize pHi (pget ps l) = B at *
  generalize pLo (pget ps r) = C at *
  generalize pHi (pget ps r) = D at *
  have sA := wi_sm wa
  have sB := wi_sm wb
  have sC := wi_sm wc
  have sD := wi_sm wd
  unfold b_M_doTwo_173
  simp only [nI_clamp' (show l < 2147483648 by omega), nI_clamp' (show r < 2147483648 by omega)]
  refine ⟨vp_in_nI (by omega) (by decide), vp_in_nI (by omega) (by decide), vp_in_nI (by omega) (by decide), vp_in_nI (by omega) (by decide), fun h30 g30 h31 g31 => ?_⟩
  rw [pa, pb, pc, pd]
  have f31 : FK keepC h h31 := by rw [g31, g30]; exact (FK.rf.zl nkC).zl nkC
  have a31 : RM h31 (ws, t, ps) := by rw [g31, g30]; exact a.l39.l39
  have z31 : h31.1 39 24 = 0 := by rw [g31, g30]; exact hf
  have l31 : h31.2.1 39 32 = jL 0 ∧ h31.2.1 39 33 = jL 1 := by rw [g31, g30]; simp [zl2, j0, j1]
  have core : ∀ (h9 : zH) (q1 q2 : Int), FK keepC h h9 → RM h9 (ws, t, ps) → h9.1 39 24 = 0 → h9.2.1 39 32 = jL q1 → h9.2.1 39 33 = jL q2 → rg2 op A B C D = (q1, q2) → sm q1 → sm q2 → ¬ ((op = 12 ∨ op = 13) ∧ C ≤ 0 ∧ 0 ≤ D) → b_M_doTwo_539 post (nI (rop op)) (nI pl) (nI r) (nI l) (nI kd) h9 := by
    intro h9 q1 q2 f9 a9 z9 u1 u2 er s1 s2 hz
    rw [er] at hbad hgood
    simp only [if_neg hz] at hbad hgood
    exact sp_two539 a9 z9 ho hB hlen hw ht hpl hl hr u1 u2 s1 s2 (fun e h' c b => hbad e h' c (b.pre f9)) (fun q h' c b => hgood q h' c (b.pre f9))
  have core2 : ∀ (x1 x2 : Int), rg2 op A B C D = (x1, x2) → sm x1 → sm x2 → ¬ ((op = 12 ∨ op = 13) ∧ C ≤ 0 ∧ 0 ≤ D) → b_M_doTwo_539 post (nI (rop op)) (nI pl) (nI r) (nI l) (nI kd) (zl (zl h31 39 32 (jL x1)) 39 33 (jL x2)) := by
    intro x1 x2 er s1 s2 hz
    exact core _ x1 x2 ((f31.zl nkC).zl nkC) a31.l39.l39 z31 (by simp [zl2]) (by simp [zl2]) er s1 s2 hz
  have b419 : (op = 12 ∨ op = 13) → b_M_doTwo_419 post (nI (rop op)) (nI pl) (nI r) (nI l) (nI kd) (jL A) (jL B) (jL C) (jL D) h31 := by
    intro ho2
    have h0 : sm 0 := by unfold sm; omega
    have b440 : ¬ (C ≤ 0 ∧ 0 ≤ D) → b_M_doTwo_440 post (nI (rop op)) (nI pl) (nI r) (nI l) (nI kd) (jL A) (jL B) (jL C) (jL D) h31 := by
      intro hz
      have hz' : ¬ ((op = 12 ∨ op = 13) ∧ C ≤ 0 ∧ 0 ≤ D) := fun q => hz q.2
      unfold b_M_doTwo_440
      refine sp_M_size sC (sp_M_size sD (sp_M_greater (sm_abs sC) (sm_abs sD) ?_))
      have sM : sm (max (ab C) (ab D) - 1) := by unfold ab wi at *; unfold sm; omega
      have eM : jL (max (ab C) (ab D)) - 1 = jL (max (ab C) (ab D) - 1) := by
        rw [← j1, j_sub (sm_max (sm_abs sC) (sm_abs sD)) (by unfold sm; omega) sM]
      rw [e12, eM]
      refine ⟨fun c => ?_, fun c => ?_⟩
      · have c13 : op = 13 := by omega
        rw [← j0, lg_cmp_ge, j_le h0 sA]
        have b511 : ∀ x1, sm x1 → (rg2 op A B C D).1 = x1 → b_M_doTwo_511 post (nI (rop op)) (nI pl) (nI r) (nI l) (nI kd) (jL B) (jL (max (ab C) (ab D) - 1)) (jL x1) h31 := by
          intro x1 s1 er
          unfold b_M_doTwo_511 b_M_doTwo_533
          intro h15 g15
          rw [← j0, lg_cmp_le, j_le sB h0]
          refine ⟨fun q => fun h14 g14 => ?_, fun q => sp_M_lesser sM sB (fun h14 g14 => ?_)⟩
          · rw [g14, g15]
            refine core2 x1 0 ?_ s1 h0 hz'
            rw [← er, c13]; unfold rg2; simp; omega
          · rw [g14, g15]
            refine core2 x1 _ ?_ s1 (sm_min sM sB) hz'
            rw [← er, c13]; unfold rg2; simp; omega
        refine ⟨fun q => b511 0 h0 (by rw [c13]; unfold rg2; simp; omega), fun q => ?_⟩
        have sN : sm (-A) := by unfold sm at *; omega
        rw [j_neg sA sN]
        refine sp_M_lesser sM sN ?_
        have sO : sm (-(min (max (ab C) (ab D) - 1) (-A))) := by have := sm_min sM sN; unfold sm at *; omega
        rw [j_neg (sm_min sM sN) sO]
        exact b511 _ sO (by rw [c13]; unfold rg2; simp; omega)
      · have nC : ¬ jL C = 0 := by rw [← j0, j_eq sC h0]; omega
        have nD : ¬ jL D = 0 := by rw [← j0, j_eq sD h0]; omega
        refine ⟨nC, nD, nC, nD, ?_⟩
        have d1 := wi_div (b := C) wa
        have d2 := wi_div (b := D) wa
        have d3 := wi_div (b := C) wb
        have d4 := wi_div (b := D) wb
        rw [j_div sA sC d1, j_div sA sD d2, j_div sB sC d3, j_div sB sD d4]
        refine sp_M_ends d1 d2 d3 d4 (core2 _ _ ?_ (sm_mn4 d1 d2 d3 d4) (sm_mx4 d1 d2 d3 d4) hz')
        rw [c]; unfold rg2; simp
    unfold b_M_doTwo_419
    rw [← j0, lg_cmp_gt, lg_cmp_lt, j_lt h0 sC, j_lt sD h0]
    refine ⟨fun q => b440 (by omega), fun q => ⟨fun q2 => b440 (by omega), fun q2 => sp_M_bad (a := 3) z31 ?_⟩⟩
    exact hbad (3 + 8 * pl) _ (by rw [if_pos ⟨ho2, by omega, by omega⟩]) (BadM.mk f31 a31 hw (by omega))
  simp only [e23, e24, e13, e11, e9, e10, e12]
  refine ⟨fun c => ?_, fun n23 => ⟨fun c => ?_, fun n24 => ⟨fun c => b419 (Or.inr c), fun n13 => ⟨fun c => ?_, fun n11 => ⟨fun c => ?_, fun n9 => ⟨fun c => ?_, fun n10 => ⟨fun c => b419 (Or.inl c), fun n12 => ?_⟩⟩⟩⟩⟩⟩⟩
  · refine sp_M_lesser sA sC (fun h34 g34 => sp_M_lesser sB sD (fun h37 g37 => ?_))
    rw [g37, g34]
    exact core2 _ _ (by rw [c]; unfold rg2; simp) (sm_min sA sC) (sm_min sB sD) (by omega)
  · refine sp_M_greater sA sC (fun h34 g34 => sp_M_greater sB sD (fun h37 g37 => ?_))
    rw [g37, g34]
    exact core2 _ _ (by rw [c]; unfold rg2; simp) (sm_max sA sC) (sm_max sB sD) (by omega)
  · have m1 := wi_mul wa wc
    have m2 := wi_mul wa wd
    have m3 := wi_mul wb wc
    have m4 := wi_mul wb wd
    rw [j_mul sA sC m1, j_mul sA sD m2, j_mul sB sC m3, j_mul sB sD m4]
    exact sp_M_ends m1 m2 m3 m4 (core2 _ _ (by rw [c]; unfold rg2; simp) (sm_mn4 m1 m2 m3 m4) (sm_mx4 m1 m2 m3 m4) (by omega))
  · have m1 : sm (A + C) := by unfold wi at *; unfold sm; omega
    have m2 : sm (B + D) := by unfold wi at *; unfold sm; omega
    have m3 : sm (A + D) := by unfold wi at *; unfold sm; omega
    have m4 : sm (B + C) := by unfold wi at *; unfold sm; omega
    rw [j_add sA sC m1, j_add sB sD m2, j_add sA sD m3, j_add sB sC m4]
    refine sp_M_ends m1 m2 m3 m4 (core2 _ _ ?_ (sm_mn4 m1 m2 m3 m4) (sm_mx4 m1 m2 m3 m4) (by omega))
    rw [c]; unfold rg2 mn4 mx4; simp; omega
  · have m1 : sm (A - C) := by unfold wi at *; unfold sm; omega
    have m2 : sm (B - D) := by unfold wi at *; unfold sm; omega
    have m3 : sm (A - D) := by unfold wi at *; unfold sm; omega
    have m4 : sm (B - C) := by unfold wi at *; unfold sm; omega
    rw [j_sub sA sC m1, j_sub sB sD m2, j_sub sA sD m3, j_sub sB sC m4]
    refine sp_M_ends m1 m2 m3 m4 (core2 _ _ ?_ (sm_mn4 m1 m2 m3 m4) (sm_mx4 m1 m2 m3 m4) (by omega))
    rw [c]; unfold rg2 mn4 mx4; simp; omega
  · refine core h31 0 1 f31 a31 z31 l31.1 l31.2 ?_ (by unfold sm; omega) (by unfold sm; omega) (by omega)
    unfold rg2
    rw [if_neg n9, if_neg n10, if_neg n11, if_neg n12, if_neg n13, if_neg n23, if_neg n24]
theorem fit_b {op k1 k2 : Nat} (h1 : k1 < 2) (h2 : k2 < 2) : (if op = 18 ∨ op = 19 then decide (k1 = 0 ∧ k2 = 0) || decide (k1 = 1 ∧ k2 = 1) else if op = 21 ∨ op = 22 then decide (k1 = 1 ∧ k2 = 1) else decide (k1 = 0 ∧ k2 = 0)) = true ↔ fit2 op k1 k2 := by
  unfold fit2
  by_cases c : op = 18 ∨ op = 19
  · rw [if_pos c, if_pos c]; simp; omega
  · rw [if_neg c, if_neg c]
    by_cases d : op = 21 ∨ op = 22
    · rw [if_pos d, if_pos d]; simp
    · rw [if_neg d, if_neg d]; simp
theorem sp_M_doTwo {h : zH} {ws : List Fr} {t : List Nat} {ps : List Pt} {op pl l r : Nat} {post : zH → Prop} (a : RM h (ws, r :: l :: t, ps)) (hf : h.1 39 24 = 0) (ho : two op) (hB : Bas ps) (hlen : ps.length ≤ 100) (hw : ws.length ≤ 197) (ht : t.length ≤ 100) (hpl : pl < 100000) (hl : l < ps.length) (hr : r < ps.length)
    (hbad : ∀ e h', comb2 op pl (r :: l :: t) ps = .error e → BadM h h' e → post h')
    (hgood : ∀ q h', comb2 op pl (r :: l :: t) ps = .ok q → GoodM h h' (ws, q) → post h') : wp_M_doTwo (nI (rop op)) (nI pl) h post := by
  have ho' : op < 28 := by unfold two at ho; omega
  unfold wp_M_doTwo
  refine sp_M_pop a (by simp only [List.length_cons]; omega) (fun a1 => sp_M_pop a1 (by omega) (fun a2 => ?_))
  generalize hh : zi (zi h 39 30 (nI (l :: t).length)) 39 30 (nI t.length) = h5 at *
  have f5 : FK keepC h h5 := by rw [← hh]; exact (FK.rf.zi nkC).zi nkC
  have z5 : h5.1 39 24 = 0 := by rw [← hh]; simp [zi1, hf]
  obtain ⟨kl, _, _, _, _⟩ := hB l hl
  obtain ⟨kr, _, _, _, _⟩ := hB r hr
  have pl' : h5.1 46 l = _ := (a2.pt (i := l) hl).2.2.1
  have pr' : h5.1 46 r = _ := (a2.pt (i := r) hr).2.2.1
  simp only at pl' pr'
  have hbad' : ¬ fit2 op (pKd (pget ps l)) (pKd (pget ps r)) → post (zi h5 39 24 (nI (2 + 8 * pl))) := by
    intro q
    refine hbad (2 + 8 * pl) _ ?_ (BadM.mk f5 a2 hw (by omega))
    simp only [comb2]
    rw [if_pos q]
  have haft : fit2 op (pKd (pget ps l)) (pKd (pget ps r)) → comb2 op pl (r :: l :: t) ps = aft op pl (kd2 op) l r t ps := by
    intro q
    simp only [comb2, aft]
    rw [if_neg (fun z => z q)]
  have b63 : b_M_doTwo_63 post (nI (rop op)) (nI pl) (nI r) (nI l) (b01 (decide (pKd (pget ps l) = 0 ∧ pKd (pget ps r) = 0))) (b01 (decide (pKd (pget ps l) = 1 ∧ pKd (pget ps r) = 1))) h5 := by
    refine sp_two63 ho' (fun q => ?_) (fun q => ?_)
    · have nf : ¬ fit2 op (pKd (pget ps l)) (pKd (pget ps r)) := fun z => by rw [(fit_b kl kr).mpr z] at q; cases q
      unfold b_M_doTwo_143
      exact sp_M_bad (a := 2) z5 (hbad' nf)
    · have yf := (fit_b kl kr).mp q
      have fin : ∀ kd, kd2 op = kd → b_M_doTwo_173 post (nI (rop op)) (nI pl) (nI r) (nI l) (nI kd) h5 := by
        intro kd ek
        subst ek
        exact sp_two173 a2 z5 ho hB hlen hw ht hpl hl hr (fun e h' c b => hbad e h' (by rw [haft yf]; exact c) (b.pre f5)) (fun q h' c b => hgood q h' (by rw [haft yf]; exact c) (b.pre f5))
      unfold b_M_doTwo_150
      refine sp_M_rank ho' ?_
      have e23 : nI (rop op) = 4 ↔ op = 23 := ropI 23 ho'
      have e24 : nI (rop op) = 5 ↔ op = 24 := ropI 24 ho'
      have hrk : rk op ≤ 6 := by unfold rk; repeat' split
                                 all_goals omega
      have hr4 : 4 < rk op ↔ 9 ≤ op ∧ op ≤ 13 := by
        unfold rk
        by_cases c1 : 11 ≤ op ∧ op ≤ 13
        · rw [if_pos c1]; omega
        · rw [if_neg c1]
          by_cases c2 : op = 9 ∨ op = 10
          · rw [if_pos c2]; omega
          · rw [if_neg c2]; repeat' split
            all_goals omega
      rw [e23, e24, lit_lt_nI (d := 4) (by omega) (by decide), hr4]
      unfold b_M_doTwo_168
      refine ⟨fun c => fin 0 ?_, fun c => ⟨fun c2 => fin 0 ?_, fun c2 => ⟨fun c3 => fin 1 ?_, fun c3 => fin 0 ?_⟩⟩⟩ <;> unfold kd2
      · rw [if_pos (by omega)]
      · rw [if_pos (by omega)]
      · rw [if_neg (by omega)]
      · rw [if_pos (by omega)]
  have b35 : b_M_doTwo_35 post (nI (rop op)) (nI pl) (nI r) (nI l) (b01 (decide (pKd (pget ps l) = 0 ∧ pKd (pget ps r) = 0))) h5 := by
    unfold b_M_doTwo_35 b_M_doTwo_62
    simp only [nI_clamp' (show l < 2147483648 by omega), nI_clamp' (show r < 2147483648 by omega), pl', pr']
    rw [nI_lit (d := 1) (by omega) (by decide), nI_lit (d := 1) (by omega) (by decide)]
    refine ⟨vp_in_nI (by omega) (by decide), fun q => ?_, fun q => ⟨vp_in_nI (by omega) (by decide), fun q2 => ?_, fun q2 => ?_⟩⟩
    · rw [show decide (pKd (pget ps l) = 1 ∧ pKd (pget ps r) = 1) = false by simp; omega] at b63; exact b63
    · rw [show decide (pKd (pget ps l) = 1 ∧ pKd (pget ps r) = 1) = false by simp; omega] at b63; exact b63
    · rw [show decide (pKd (pget ps l) = 1 ∧ pKd (pget ps r) = 1) = true by simp; omega] at b63; exact b63
  simp only [nI_clamp' (show l < 2147483648 by omega), nI_clamp' (show r < 2147483648 by omega), pl', pr']
  rw [nI_lit (d := 0) (by omega) (by decide), nI_lit (d := 0) (by omega) (by decide)]
  unfold b_M_doTwo_34
  refine ⟨vp_in_nI (by omega) (by decide), fun q => ?_, fun q => ⟨vp_in_nI (by omega) (by decide), fun q2 => ?_, fun q2 => ?_⟩⟩
  · rw [show decide (pKd (pget ps l) = 0 ∧ pKd (pget ps r) = 0) = false by simp; omega] at b35; exact b35
  · rw [show decide (pKd (pget ps l) = 0 ∧ pKd (pget ps r) = 0) = false by simp; omega] at b35; exact b35
  · rw [show decide (pKd (pget ps l) = 0 ∧ pKd (pget ps r) = 0) = true by simp; omega] at b35; exact b35
