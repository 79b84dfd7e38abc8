/-- one part taken -/
def tl1 (h : zH) (p x d n : Nat) : zH := zi (zi (zi (zi h 49 p (nI x)) 52 p (nI d)) 57 n (nI p)) 39 30 (nI (n + 1))
def tl3 (h : zH) (p x y z d n : Nat) : zH := zi (zi (zi (zi (zi (zi h 49 p (nI x)) 50 p (nI y)) 51 p (nI z)) 52 p (nI d)) 57 n (nI p)) 39 30 (nI (n + 1))
theorem bad_tl1 {h h1 : zH} {p x d n e : Nat} (hp : p < 100) (b : BadM h h1 e) : BadM h (tl1 h1 p x d n) e := by
  obtain ⟨b1, b2, b3, w, b4, b5⟩ := b
  refine ⟨(((b1.zi nkC).zi nkC).zi nkC).zi nkC, ?_, b3, w, ?_, b5⟩ <;> (unfold tl1; simp [zi1]; assumption)
theorem bad_tl3 {h h1 : zH} {p x y z d n e : Nat} (hp : p < 100) (b : BadM h h1 e) : BadM h (tl3 h1 p x y z d n) e := by
  obtain ⟨b1, b2, b3, w, b4, b5⟩ := b
  refine ⟨(((((b1.zi nkC).zi nkC).zi nkC).zi nkC).zi nkC).zi nkC, ?_, b3, w, ?_, b5⟩ <;> (unfold tl3; simp [zi1]; assumption)
theorem good_tl1 {h h1 : zH} {ws : List Fr} {t : List Nat} {ps : List Pt} {op pl kd x d : Nat} {q1 q2 : Int} (a : RM h (ws, t, ps)) (hf : h.1 39 24 = 0) (ho : op = 20 ∨ op = 25 ∨ op = 26) (hl : ps.length < 100) (f : FK keepC h h1) (e39 : ∀ i, i = 24 ∨ i = 28 ∨ i = 30 ∨ i = 31 → h1.1 39 i = h.1 39 i) (e54 : ∀ c, 54 ≤ c → h1.1 c = h.1 c) (eo : ∀ c i, 44 ≤ c → c ≤ 53 → i < ps.length → h1.1 c i = h.1 c i ∧ h1.2.1 c i = h.2.1 c i) (e22 : h1.1 39 22 = nI (ps.length + 1)) (pq : PtQ h1 ps.length (nI (rop op)) (nI pl) (nI kd) (jL q1) (jL q2)) :
    GoodM h (tl1 h1 ps.length x d t.length) (ws, ps.length :: t, (op, pl, kd, q1, q2, x, 0, 0, d) :: ps) := by
  have hne : ∀ i, i < ps.length → ¬ i = ps.length := fun i hi => by omega
  have hnt : ∀ i, i < t.length → ¬ i = t.length := fun i hi => by omega
  refine ⟨(((f.zi nkC).zi nkC).zi nkC).zi nkC, a.add ?_ ?_ ?_ ?_ ?_ ?_ ?_ ?_ ?_, ?_⟩
  · unfold tl1; simp [zi1]; exact e39 28 (by simp)
  · unfold tl1; simp [zi1]; exact e39 31 (by simp)
  · unfold tl1; simp [zi1]
  · unfold tl1; simp [zi1]; exact e22
  · intro c hc
    unfold tl1
    rw [zi_ne (by omega), zi_ne (by omega), zi_ne (by omega), zi_ne (by omega)]
    exact e54 c (by omega)
  · intro i hi
    unfold tl1; simp [zi1, hnt i hi]; rw [e54 57 (by decide)]
  · unfold tl1; simp [zi1]
  · intro c i h1 h2 hi
    unfold tl1
    refine ⟨?_, ?_⟩
    · simp only [zi1, hne i hi, and_false, if_false]
      rw [if_neg (by omega), if_neg (by omega)]
      exact (eo c i h1 h2 hi).1
    · exact (eo c i h1 h2 hi).2
  · obtain ⟨p1, p2, p3, p4, p5, p6, p7, p8, p9, p10⟩ := pq
    unfold tl1
    refine ⟨?_, ?_, ?_, ?_, ?_, ?_, ?_, ?_, ?_, ?_, ?_⟩
    · simp [zi1, p1, pOp]
    · simp [zi1, p2, pPl]
    · simp [zi1, p3, pKd]
    · simp [zi2, p4, pLo]
    · simp [zi2, p5, pHi]
    · rw [mA_op (by unfold pOp; simp only; omega)]; simp [zi1, pA]
    · unfold mB; rw [if_pos (by unfold pOp; simp only; omega)]; simp [zi1, p7]
    · unfold mC; rw [if_neg (by unfold pOp; simp only; omega)]; simp [zi1, p8]
    · simp [zi1, pDp]
    · intro q; unfold pOp at q; simp only at q; omega
    · intro q; unfold pOp at q; simp only at q; omega
  · unfold tl1; simp [zi1]; rw [e39 24 (by simp)]; exact hf
theorem good_tl3 {h h1 : zH} {ws : List Fr} {t : List Nat} {ps : List Pt} {pl kd x y z d : Nat} {q1 q2 : Int} (a : RM h (ws, t, ps)) (hf : h.1 39 24 = 0) (hl : ps.length < 100) (f : FK keepC h h1) (e39 : ∀ i, i = 24 ∨ i = 28 ∨ i = 30 ∨ i = 31 → h1.1 39 i = h.1 39 i) (e54 : ∀ c, 54 ≤ c → h1.1 c = h.1 c) (eo : ∀ c i, 44 ≤ c → c ≤ 53 → i < ps.length → h1.1 c i = h.1 c i ∧ h1.2.1 c i = h.2.1 c i) (e22 : h1.1 39 22 = nI (ps.length + 1)) (pq : PtQ h1 ps.length (nI (rop 7)) (nI pl) (nI kd) (jL q1) (jL q2)) :
    GoodM h (tl3 h1 ps.length x y z d t.length) (ws, ps.length :: t, (7, pl, kd, q1, q2, x, y, z, d) :: ps) := by
  have hne : ∀ i, i < ps.length → ¬ i = ps.length := fun i hi => by omega
  have hnt : ∀ i, i < t.length → ¬ i = t.length := fun i hi => by omega
  refine ⟨(((((f.zi nkC).zi nkC).zi nkC).zi nkC).zi nkC).zi nkC, a.add ?_ ?_ ?_ ?_ ?_ ?_ ?_ ?_ ?_, ?_⟩
  · unfold tl3; simp [zi1]; exact e39 28 (by simp)
  · unfold tl3; simp [zi1]; exact e39 31 (by simp)
  · unfold tl3; simp [zi1]
  · unfold tl3; simp [zi1]; exact e22
  · intro c hc
    unfold tl3
    rw [zi_ne (by omega), zi_ne (by omega), zi_ne (by omega), zi_ne (by omega), zi_ne (by omega), zi_ne (by omega)]
    exact e54 c (by omega)
  · intro i hi
    unfold tl3; simp [zi1, hnt i hi]; rw [e54 57 (by decide)]
  · unfold tl3; simp [zi1]
  · intro c i h1 h2 hi
    unfold tl3
    refine ⟨?_, ?_⟩
    · simp only [zi1, hne i hi, and_false, if_false]
      rw [if_neg (by omega), if_neg (by omega)]
      exact (eo c i h1 h2 hi).1
    · exact (eo c i h1 h2 hi).2
  · obtain ⟨p1, p2, p3, p4, p5, p6, p7, p8, p9, p10⟩ := pq
    unfold tl3
    refine ⟨?_, ?_, ?_, ?_, ?_, ?_, ?_, ?_, ?_, ?_, ?_⟩
    · simp [zi1, p1, pOp]
    · simp [zi1, p2, pPl]
    · simp [zi1, p3, pKd]
    · simp [zi2, p4, pLo]
    · simp [zi2, p5, pHi]
    · rw [mA_op (by unfold pOp; simp only; omega)]; simp [zi1, pA]
    · unfold mB; rw [if_neg (by unfold pOp; simp only; omega)]; simp [zi1, pB]
    · unfold mC; rw [if_pos (by unfold pOp; rfl)]; simp [zi1, pC]
    · simp [zi1, pDp]
    · intro q; unfold pOp at q; simp only at q; omega
    · intro q; unfold pOp at q; simp only at q; omega
  · unfold tl3; simp [zi1]; rw [e39 24 (by simp)]; exact hf
def aft1 (post : zH → Prop) (l3 r1 : Int32) (h2 : zH) : Prop := (vp_in r1 200 ∧ ∀ h3 : zH, h3 = zi h2 49 (r1 : Int32).toNatClampNeg l3 → (vp_in l3 200 ∧ (vp_in r1 200 ∧ ∀ h4 : zH, h4 = zi h3 52 (r1 : Int32).toNatClampNeg (1 + (h3.1 52 (l3 : Int32).toNatClampNeg)) → wp_M_push (r1) h4 (fun (h6 : zH) => post h6))))
theorem sp_aft1 {h : zH} {p x n d : Nat} {post : zH → Prop} (hp : p < 200) (hx : x < 200) (hn : n < 300) (e30 : h.1 39 30 = nI n) (ex : h.1 52 x = nI d) (hq : post (tl1 h p x (1 + d) n)) : aft1 post (nI x) (nI p) h := by
  unfold aft1
  simp only [nI_clamp' (show p < 2147483648 by omega), nI_clamp' (show x < 2147483648 by omega)]
  refine ⟨vp_in_nI hp (by decide), fun h3 g3 => ⟨vp_in_nI hx (by decide), vp_in_nI hp (by decide), fun h4 g4 => ?_⟩⟩
  have e1 : h3.1 52 x = nI d := by rw [g3]; simp [zi1, ex]
  rw [e1, one_nI] at g4
  refine sp_M_push (n := n) (by rw [g4, g3]; simp [zi1, e30]) hn ?_
  rw [g4, g3]; exact hq
theorem sp_one166 {h : zH} {ws : List Fr} {t : List Nat} {ps : List Pt} {op pl kd x : Nat} {q1 q2 : Int} {post : zH → Prop} (a : RM h (ws, t, ps)) (hf : h.1 39 24 = 0) (ho : op = 20 ∨ op = 25 ∨ op = 26) (hB : Bas ps) (hlen : ps.length ≤ 100) (hw : ws.length ≤ 197) (ht : t.length ≤ 100) (hpl : pl < 100000) (hx : x < ps.length)
    (hbad : ∀ e h', addp t ps (op, pl, kd, q1, q2, x, 0, 0, 1 + pDp (pget ps x)) = .error e → BadM h h' e → post h')
    (hgood : ∀ q h', addp t ps (op, pl, kd, q1, q2, x, 0, 0, 1 + pDp (pget ps x)) = .ok q → GoodM h h' (ws, q) → post h') : b_M_doOne_166 post (nI x) (jL q1) (jL q2) (nI kd) (nI pl) (nI (rop op)) h := by
  have dx := (hB x hx).2.1
  have px : h.1 52 x = _ := (a.pt (i := x) hx).2.2.2.2.2.2.2.2.1
  simp only at px
  unfold b_M_doOne_166
  refine sp_M_part5 a hf hlen hpl hw (fun c => ?_) (fun c h1 f e39 e54 eo e22 pq => ?_)
  · refine sp_aft1 (p := 0) (n := t.length) (by decide) (by omega) (by omega) (by simp [zi1]; exact a.2.2.2.1) (by simp [zi1]; exact px) ?_
    simp only at c
    exact hbad (6 + 8 * pl) _ (by unfold addp; rw [if_neg (by omega)]; rfl) (bad_tl1 (by decide) (BadM.mk FK.rf a hw (by omega)))
  · simp only at c e22 pq eo
    refine sp_aft1 (p := ps.length) (n := t.length) (by omega) (by omega) (by omega) (by rw [e39 30 (by simp)]; exact a.2.2.2.1) (by rw [(eo 52 x (by decide) (by decide) hx).1]; exact px) ?_
    exact hgood _ _ (by unfold addp; rw [if_pos c]) (good_tl1 a hf ho c f e39 e54 eo e22 pq)
theorem sp_M_doOne {h : zH} {ws : List Fr} {t : List Nat} {ps : List Pt} {op pl x : Nat} {post : zH → Prop} (a : RM h (ws, x :: t, ps)) (hf : h.1 39 24 = 0) (ho : op = 20 ∨ op = 25 ∨ op = 26) (hB : Bas ps) (hlen : ps.length ≤ 100) (hw : ws.length ≤ 197) (ht : t.length ≤ 100) (hpl : pl < 100000) (hx : x < ps.length)
    (hbad : ∀ e h', comb1 op pl (x :: t) ps = .error e → BadM h h' e → post h')
    (hgood : ∀ q h', comb1 op pl (x :: t) ps = .ok q → GoodM h h' (ws, q) → post h') : wp_M_doOne (nI (rop op)) (nI pl) h post := by
  have ho' : op < 28 := by omega
  have e20 : nI (rop op) = 33 ↔ op = 20 := ropI 20 ho'
  have e26 : nI (rop op) = 100 ↔ op = 26 := ropI 26 ho'
  unfold wp_M_doOne
  refine sp_M_pop a (by omega) (fun a2 => ?_)
  generalize hh : zi h 39 30 (nI t.length) = h5 at *
  have f5 : FK keepC h h5 := by rw [← hh]; exact FK.rf.zi nkC
  have z5 : h5.1 39 24 = 0 := by rw [← hh]; simp [zi1, hf]
  obtain ⟨kx, _, wa, wb, hab⟩ := hB x hx
  have pk : h5.1 46 x = _ := (a2.pt (i := x) hx).2.2.1
  have pa : h5.2.1 47 x = _ := (a2.pt (i := x) hx).2.2.2.1
  have pb : h5.2.1 48 x = _ := (a2.pt (i := x) hx).2.2.2.2.1
  simp only at pk pa pb
  unfold comb1 at hbad hgood
  simp only at hbad hgood
  have fin : ∀ kd q1 q2, pKd (pget ps x) = kd → (if op = 20 then 1 else 0) = kd → rg1 op (pLo (pget ps x)) (pHi (pget ps x)) = (q1, q2) → b_M_doOne_166 post (nI x) (jL q1) (jL q2) (nI kd) (nI pl) (nI (rop op)) h5 := by
    intro kd q1 q2 ek eo er
    simp only [er, eo, ek, ne_eq, not_true, if_false] at hbad hgood
    exact sp_one166 a2 z5 ho hB hlen hw ht hpl hx (fun e h' c b => hbad e h' c (b.pre f5)) (fun q h' c b => hgood q h' c (b.pre f5))
  have hbd : pKd (pget ps x) ≠ (if op = 20 then 1 else 0) → post (zi h5 39 24 (nI (2 + 8 * pl))) := by
    intro q
    exact hbad (2 + 8 * pl) _ (by rw [if_pos q]) (BadM.mk f5 a2 hw (by omega))
  generalize pLo (pget ps x) = A at *
  generalize pHi (pget ps x) = B at *
  have sA := wi_sm wa
  have sB := wi_sm wb
  have h0 : sm 0 := by unfold sm; omega
  simp only [nI_clamp' (show x < 2147483648 by omega), pk]
  rw [e20]
  have rest : ∀ kd s0, pKd (pget ps x) = kd → (if op = 20 then 1 else 0) = kd → s0 = b01 (decide (A ≤ 0 ∧ 0 ≤ B)) → b_M_doOne_67 post (nI (rop op)) (nI pl) (nI x) (jL A) (jL B) s0 h5 := by
    intro kd s0 ek eo es
    have b150 : ∀ q1 q2, rg1 op A B = (q1, q2) → b_M_doOne_150 post (nI (rop op)) (nI pl) (nI x) (jL q1) (jL q2) h5 := by
      intro q1 q2 er
      unfold b_M_doOne_150
      rw [e20]
      refine ⟨fun c => fin 0 q1 q2 (by rw [ek, ← eo, if_neg c]) (by rw [if_neg c]) er, fun c => fin 1 q1 q2 (by rw [ek, ← eo, if_pos c]) (by rw [if_pos c]) er⟩
    have b113 : ∀ q1, (rg1 op A B).1 = q1 → b_M_doOne_113 post (nI (rop op)) (nI pl) (nI x) (jL A) (jL B) (jL q1) h5 := by
      intro q1 er
      unfold b_M_doOne_113
      rw [e20, e26]
      refine ⟨fun c => ⟨fun c2 => ?_, fun c2 => ?_⟩, fun c => ?_⟩
      · refine sp_M_size sA (sp_M_size sB (sp_M_greater (sm_abs sA) (sm_abs sB) (b150 q1 _ ?_)))
        rw [← er]
        have : op = 25 := by omega
        rw [this]; unfold rg1; simp
      · rw [j_neg sA (by unfold sm at *; omega)]
        refine b150 q1 _ ?_
        rw [← er, c2]; unfold rg1; simp
      · rw [← j1]
        refine b150 q1 1 ?_
        rw [← er, c]; unfold rg1; simp
    unfold b_M_doOne_67
    rw [e20, e26]
    refine ⟨fun c => ⟨fun c2 => ?_, fun c2 => ?_⟩, fun c => ?_⟩
    · have h25 : op = 25 := by omega
      rw [es, b01f]
      refine ⟨fun q => sp_M_size sA (sp_M_size sB (sp_M_lesser (sm_abs sA) (sm_abs sB) (b113 _ ?_))), fun q => ?_⟩
      · have q' : ¬ (A ≤ 0 ∧ 0 ≤ B) := by simpa using q
        rw [h25]; unfold rg1; rw [if_neg (by decide), if_pos rfl]; simp only; rw [if_neg q']
      · have q' : A ≤ 0 ∧ 0 ≤ B := by simpa using q
        rw [← j0]
        refine b113 0 ?_
        rw [h25]; unfold rg1; rw [if_neg (by decide), if_pos rfl]; simp only; rw [if_pos q']
    · rw [j_neg sB (by unfold sm at *; omega)]
      refine b113 _ ?_
      rw [c2]; unfold rg1; simp
    · rw [← j0]
      refine b113 0 ?_
      rw [c]; unfold rg1; simp
  have b22 : ∀ kd : Nat, (if op = 20 then 1 else 0) = kd → b_M_doOne_22 post (nI (rop op)) (nI pl) (nI x) (nI kd) (nI (pKd (pget ps x))) h5 := by
    intro kd eo
    unfold b_M_doOne_22 b_M_doOne_66
    simp only [nI_clamp' (show x < 2147483648 by omega), pa, pb]
    have k2 : kd < 2 := by rw [← eo]; split <;> decide
    rw [nI_eq (by omega) (by omega), ← j0, lg_cmp_gt, lg_cmp_lt, j_lt h0 sA, j_lt sB h0]
    refine ⟨fun q => ⟨vp_in_nI (by omega) (by decide), vp_in_nI (by omega) (by decide), fun q2 => ?_, fun q2 => ⟨fun q3 => ?_, fun q3 => ?_⟩⟩, fun q => sp_M_bad (a := 2) z5 (hbd (by rw [eo]; exact q))⟩
    · exact rest kd _ q eo (by rw [show decide (A ≤ 0 ∧ 0 ≤ B) = false by simp; omega]; rfl)
    · exact rest kd _ q eo (by rw [show decide (A ≤ 0 ∧ 0 ≤ B) = false by simp; omega]; rfl)
    · exact rest kd _ q eo (by rw [show decide (A ≤ 0 ∧ 0 ≤ B) = true by simp; omega]; rfl)
  exact ⟨vp_in_nI (by omega) (by decide), fun c => b22 0 (by rw [if_neg c]), fun c => b22 1 (by rw [if_pos c])⟩
theorem sp_M_doChoice {h : zH} {ws : List Fr} {t : List Nat} {ps : List Pt} {pl x y z : Nat} {post : zH → Prop} (a : RM h (ws, z :: y :: x :: t, ps)) (hf : h.1 39 24 = 0) (hB : Bas ps) (hlen : ps.length ≤ 100) (hw : ws.length ≤ 197) (ht : t.length ≤ 100) (hpl : pl < 100000) (hx : x < ps.length) (hy : y < ps.length) (hz : z < ps.length)
    (hbad : ∀ e h', comb3 pl (z :: y :: x :: t) ps = .error e → BadM h h' e → post h')
    (hgood : ∀ q h', comb3 pl (z :: y :: x :: t) ps = .ok q → GoodM h h' (ws, q) → post h') : wp_M_doChoice (nI pl) h post := by
  unfold wp_M_doChoice
  refine sp_M_pop a (by simp only [List.length_cons]; omega) (fun a1 => sp_M_pop a1 (by simp only [List.length_cons]; omega) (fun a2 => sp_M_pop a2 (by omega) (fun a3 => ?_)))
  generalize hh : zi (zi (zi h 39 30 (nI (y :: x :: t).length)) 39 30 (nI (x :: t).length)) 39 30 (nI t.length) = h8 at *
  have f8 : FK keepC h h8 := by rw [← hh]; exact ((FK.rf.zi nkC).zi nkC).zi nkC
  have z8 : h8.1 39 24 = 0 := by rw [← hh]; simp [zi1, hf]
  obtain ⟨kx, dx, _, _, _⟩ := hB x hx
  obtain ⟨ky, dy, wc, wd, _⟩ := hB y hy
  obtain ⟨kz, dz, we, wf, _⟩ := hB z hz
  have pkx : h8.1 46 x = _ := (a3.pt (i := x) hx).2.2.1
  have pky : h8.1 46 y = _ := (a3.pt (i := y) hy).2.2.1
  have pkz : h8.1 46 z = _ := (a3.pt (i := z) hz).2.2.1
  have pc : h8.2.1 47 y = _ := (a3.pt (i := y) hy).2.2.2.1
  have pd : h8.2.1 48 y = _ := (a3.pt (i := y) hy).2.2.2.2.1
  have pe : h8.2.1 47 z = _ := (a3.pt (i := z) hz).2.2.2.1
  have pf : h8.2.1 48 z = _ := (a3.pt (i := z) hz).2.2.2.2.1
  have qx : h8.1 52 x = _ := (a3.pt (i := x) hx).2.2.2.2.2.2.2.2.1
  have qy : h8.1 52 y = _ := (a3.pt (i := y) hy).2.2.2.2.2.2.2.2.1
  have qz : h8.1 52 z = _ := (a3.pt (i := z) hz).2.2.2.2.2.2.2.2.1
  simp only at pkx pky pkz pc pd pe pf qx qy qz
  unfold comb3 at hbad hgood
  simp only at hbad hgood
  simp only [nI_clamp' (show x < 2147483648 by omega), nI_clamp' (show y < 2147483648 by omega), nI_clamp' (show z < 2147483648 by omega), pkx, pky, pkz, pc, pd, pe, pf]
  rw [nI_lit (d := 1) (by omega) (by decide), nI_eq (by omega) (by omega)]
  have vx : vp_in (nI x) 200 := vp_in_nI (by omega) (by decide)
  have vy : vp_in (nI y) 200 := vp_in_nI (by omega) (by decide)
  have vz : vp_in (nI z) 200 := vp_in_nI (by omega) (by decide)
  have hb : (pKd (pget ps x) ≠ 1 ∨ pKd (pget ps y) ≠ pKd (pget ps z)) → b_M_doChoice_42 post (nI pl) h8 := by
    intro q
    unfold b_M_doChoice_42
    exact sp_M_bad (a := 2) z8 (hbad (2 + 8 * pl) _ (by rw [if_pos q]) (BadM.mk f8 a3 hw (by omega)))
  refine ⟨vx, fun q => hb (Or.inl q), fun q => ⟨vy, vz, fun q2 => ⟨vy, vy, vz, ?_⟩, fun q2 => hb (Or.inr q2)⟩⟩
  have qq : ¬ (pKd (pget ps x) ≠ 1 ∨ pKd (pget ps y) ≠ pKd (pget ps z)) := by omega
  simp only [if_neg qq] at hbad hgood
  refine sp_M_lesser (wi_sm wc) (wi_sm we) ⟨vy, vz, ?_⟩
  rw [pd, pf]
  refine sp_M_greater (wi_sm wd) (wi_sm wf) ?_
  have tail : ∀ (p n : Nat) (h1 : zH), p < 200 → n < 300 → h1.1 39 30 = nI n → h1.1 52 x = nI (pDp (pget ps x)) → h1.1 52 y = nI (pDp (pget ps y)) → h1.1 52 z = nI (pDp (pget ps z)) → post (tl3 h1 p x y z (1 + max (pDp (pget ps x)) (max (pDp (pget ps y)) (pDp (pget ps z)))) n) →
      (vp_in (nI p) 200 ∧ ∀ h15 : zH, h15 = zi h1 49 (nI p : Int32).toNatClampNeg (nI x) → (vp_in (nI p) 200 ∧ ∀ h16 : zH, h16 = zi h15 50 (nI p : Int32).toNatClampNeg (nI y) → (vp_in (nI p) 200 ∧ ∀ h17 : zH, h17 = zi h16 51 (nI p : Int32).toNatClampNeg (nI z) → (vp_in (nI x) 200 ∧ (vp_in (nI y) 200 ∧ (vp_in (nI z) 200 ∧ wp_M_greater ((h17.1 52 y : Int32).toInt64) ((h17.1 52 z : Int32).toInt64) h17 (fun (r18 : Int64) (h19 : zH) => wp_M_greater ((h17.1 52 x : Int32).toInt64) (r18) h19 (fun (r20 : Int64) (h21 : zH) => (vp_in (nI p) 200 ∧ ∀ h22 : zH, h22 = zi h21 52 (nI p : Int32).toNatClampNeg (1 + (r20 : Int64).toInt32) → wp_M_push (nI p) h22 (fun (h24 : zH) => post h24)))))))))) := by
    intro p n h1 hp hn e30 ex ey ez hq
    simp only [nI_clamp' (show p < 2147483648 by omega)]
    refine ⟨vp_in_nI hp (by decide), fun h15 g15 => ⟨vp_in_nI hp (by decide), fun h16 g16 => ⟨vp_in_nI hp (by decide), fun h17 g17 => ⟨vx, vy, vz, ?_⟩⟩⟩⟩
    have e1 : h17.1 52 x = nI (pDp (pget ps x)) := by rw [g17, g16, g15]; simp [zi1, ex]
    have e2 : h17.1 52 y = nI (pDp (pget ps y)) := by rw [g17, g16, g15]; simp [zi1, ey]
    have e3 : h17.1 52 z = nI (pDp (pget ps z)) := by rw [g17, g16, g15]; simp [zi1, ez]
    rw [e1, e2, e3]
    refine sp_M_gr (by omega) (by omega) ?_
    rw [nI_j (show pDp (pget ps x) < 1000000 by omega)]
    refine sp_M_greater (by unfold sm; omega) (by unfold sm; omega) ⟨vp_in_nI hp (by decide), fun h22 g22 => ?_⟩
    have em : max (pDp (pget ps x) : Int) ((max (pDp (pget ps y)) (pDp (pget ps z)) : Nat) : Int) = ((max (pDp (pget ps x)) (max (pDp (pget ps y)) (pDp (pget ps z))) : Nat) : Int) := by omega
    rw [em, j_nI (by omega), one_nI] at g22
    refine sp_M_push (n := n) (by rw [g22, g17, g16, g15]; simp [zi1, e30]) hn ?_
    rw [g22, g17, g16, g15]; exact hq
  refine sp_M_part5 (op := nI (rop 7)) a3 z8 hlen hpl hw (fun c => ?_) (fun c h1 f e39 e54 eo e22 pq => ?_)
  · refine tail 0 t.length _ (by decide) (by omega) (by simp [zi1]; exact a3.2.2.2.1) (by simp [zi1]; exact qx) (by simp [zi1]; exact qy) (by simp [zi1]; exact qz) ?_
    simp only at c
    exact hbad (6 + 8 * pl) _ (by unfold addp; rw [if_neg (by omega)]; rfl) (bad_tl3 (by decide) (BadM.mk f8 a3 hw (by omega)))
  · simp only at c e22 pq eo
    refine tail ps.length t.length h1 (by omega) (by omega) (by rw [e39 30 (by simp)]; exact a3.2.2.2.1) (by rw [(eo 52 x (by decide) (by decide) hx).1]; exact qx) (by rw [(eo 52 y (by decide) (by decide) hy).1]; exact qy) (by rw [(eo 52 z (by decide) (by decide) hz).1]; exact qz) ?_
    exact hgood _ _ (by unfold addp; rw [if_pos c]) ((good_tl3 a3 z8 c f e39 e54 eo e22 pq).pre f8)
