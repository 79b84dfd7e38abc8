theorem RM.add {h h' : zH} {ws : List Fr} {t : List Nat} {ps : List Pt} {p : Pt} (a : RM h (ws, t, ps)) (e28 : h'.1 39 28 = h.1 39 28) (e31 : h'.1 39 31 = h.1 39 31) (e30 : h'.1 39 30 = nI (t.length + 1)) (e22 : h'.1 39 22 = nI (ps.length + 1))
    (ew : ∀ c, c = 54 ∨ c = 55 ∨ c = 56 → h'.1 c = h.1 c) (ey : ∀ i, i < t.length → h'.1 57 i = h.1 57 i) (en : h'.1 57 t.length = nI ps.length) (eo : ∀ c i, 44 ≤ c → c ≤ 53 → i < ps.length → h'.1 c i = h.1 c i ∧ h'.2.1 c i = h.2.1 c i) (ep : PtM h' ps.length p) : RM h' (ws, ps.length :: t, p :: ps) := by
  obtain ⟨a1, a2, a3, a4, a5, a6, a7⟩ := a
  refine ⟨e28.trans a1, e31.trans a2, StkW.same (h := h) (fun i _ => ⟨by rw [ew 54 (by simp)], by rw [ew 55 (by simp)], by rw [ew 56 (by simp)]⟩) a3, e30, ⟨en, StkY.same ey a5⟩, e22, ?_⟩
  intro i hi
  rw [Nat.zero_add]
  by_cases c : i = ps.length
  · subst c; simp only [pget_eq]; exact ep
  · have hi2 : i < ps.length := by simp only [List.length_cons] at hi; omega
    simp only [pget_lt hi2]
    have := a7 i hi2
    rw [Nat.zero_add] at this
    exact this.same (fun c h1 h2 => eo c i h1 h2 hi2)
theorem nI_j {d : Nat} (h : d < 1000000) : (nI d).toInt64 = jL (d : Int) := by
  have : nI d = Int32.ofInt (d : Int) := rfl
  rw [this, i2j (by unfold wi; omega)]
theorem j_nI {d : Nat} (h : d < 1000000) : (jL (d : Int)).toInt32 = nI d := by
  have := l2i_of (a := (d : Int)) (by omega) (by omega)
  exact this
theorem one_nI (d : Nat) : 1 + nI d = nI (1 + d) := nI_add 1 d
theorem sp_M_gr {a b : Nat} {h : zH} {post : Int64 → zH → Prop} (ha : a < 1000000) (hb : b < 1000000) (hp : post (jL ((max a b : Nat) : Int)) h) : wp_M_greater (nI a).toInt64 (nI b).toInt64 h post := by
  rw [nI_j ha, nI_j hb]
  refine sp_M_greater (by unfold sm; omega) (by unfold sm; omega) ?_
  have : max (a : Int) (b : Int) = ((max a b : Nat) : Int) := by omega
  rw [this]; exact hp
theorem sp_M_part5_bad {h : zH} {e : Nat} {op pl kd : Int32} {lo hi : Int64} {post : Int32 → zH → Prop} (hf : h.1 39 24 = nI e) (he : 0 < e ∧ e < 1000000) (hp : post 0 h) : wp_M_part5 op pl kd lo hi h post := by
  unfold wp_M_part5 b_M_part5_23
  rw [hf]
  refine ⟨fun _ => ⟨fun q => ?_, fun _ => hp⟩, fun q => ?_⟩
  · have := (nI_le_lit (d := 0) (by omega) (by decide)).mp q; omega
  · have := (nI_lit (d := 0) (by omega) (by decide)).mp q; omega
/-- a part's two parts told, and the part put on the pile -/
def tl2 (h : zH) (p l r d n : Nat) : zH := zi (zi (zi (zi (zi h 49 p (nI l)) 50 p (nI r)) 52 p (nI d)) 57 n (nI p)) 39 30 (nI (n + 1))
def aft2 (post : zH → Prop) (l3 l4 r3 : Int32) (h4 : zH) : Prop := (vp_in r3 200 ∧ ∀ h5 : zH, h5 = zi h4 49 (r3 : Int32).toNatClampNeg l4 → (vp_in r3 200 ∧ ∀ h6 : zH, h6 = zi h5 50 (r3 : Int32).toNatClampNeg l3 → (vp_in l4 200 ∧ (vp_in l3 200 ∧ wp_M_greater (((h6.1 52 (l4 : Int32).toNatClampNeg) : Int32).toInt64) (((h6.1 52 (l3 : Int32).toNatClampNeg) : Int32).toInt64) h6 (fun (r7 : Int64) (h8 : zH) => (vp_in r3 200 ∧ ∀ h9 : zH, h9 = zi h8 52 (r3 : Int32).toNatClampNeg (1 + (r7 : Int64).toInt32) → wp_M_push (r3) h9 (fun (h11 : zH) => post h11)))))))
theorem sp_aft2 {h : zH} {p l r n dl dr : Nat} {post : zH → Prop} (hp : p < 200) (hl : l < 200) (hr : r < 200) (hn : n < 300) (e30 : h.1 39 30 = nI n) (el : h.1 52 l = nI dl) (er : h.1 52 r = nI dr) (bl : dl < 1000) (br : dr < 1000) (hq : post (tl2 h p l r (1 + max dl dr) n)) : aft2 post (nI r) (nI l) (nI p) h := by
  unfold aft2
  simp only [nI_clamp' (show p < 2147483648 by omega), nI_clamp' (show l < 2147483648 by omega), nI_clamp' (show r < 2147483648 by omega)]
  refine ⟨vp_in_nI hp (by decide), fun h5 g5 => ⟨vp_in_nI hp (by decide), fun h6 g6 => ⟨vp_in_nI hl (by decide), vp_in_nI hr (by decide), ?_⟩⟩⟩
  have e1 : h6.1 52 l = nI dl := by rw [g6, g5]; simp [zi1, el]
  have e2 : h6.1 52 r = nI dr := by rw [g6, g5]; simp [zi1, er]
  rw [e1, e2]
  refine sp_M_gr (by omega) (by omega) ⟨vp_in_nI hp (by decide), fun h9 g9 => ?_⟩
  rw [j_nI (by omega), one_nI] at g9
  refine sp_M_push (n := n) (by rw [g9, g6, g5]; simp [zi1, e30]) hn ?_
  rw [g9, g6, g5]; exact hq
theorem bad_tl2 {h h1 : zH} {p l r d n e : Nat} (hp : p < 100) (b : BadM h h1 e) : BadM h (tl2 h1 p l r d n) e := by
  obtain ⟨b1, b2, b3, w, b4, b5⟩ := b
  refine ⟨((((b1.zi nkC).zi nkC).zi nkC).zi nkC).zi nkC, ?_, b3, w, ?_, b5⟩ <;> (unfold tl2; simp [zi1]; assumption)
theorem mA_op {p : Pt} (h : pOp p ≠ 2 ∧ pOp p ≠ 3) : mA p = nI (pA p) := by unfold mA; rw [if_neg (by omega)]
def two (op : Nat) : Prop := (9 ≤ op ∧ op ≤ 19) ∨ op = 21 ∨ op = 22 ∨ op = 23 ∨ op = 24
theorem good_tl2 {h h1 : zH} {ws : List Fr} {t : List Nat} {ps : List Pt} {op pl kd l r d : Nat} {q1 q2 : Int} (a : RM h (ws, t, ps)) (hf : h.1 39 24 = 0) (ho : two op) (hl : ps.length < 100) (f : FK keepC h h1) (e39 : ∀ i, i = 24 ∨ i = 28 ∨ i = 30 ∨ i = 31 → h1.1 39 i = h.1 39 i) (e54 : ∀ c, 54 ≤ c → h1.1 c = h.1 c) (eo : ∀ c i, 44 ≤ c → c ≤ 53 → i < ps.length → h1.1 c i = h.1 c i ∧ h1.2.1 c i = h.2.1 c i) (e22 : h1.1 39 22 = nI (ps.length + 1)) (pq : PtQ h1 ps.length (nI (rop op)) (nI pl) (nI kd) (jL q1) (jL q2)) :
    GoodM h (tl2 h1 ps.length l r d t.length) (ws, ps.length :: t, (op, pl, kd, q1, q2, l, r, 0, d) :: ps) := by
  have hne : ∀ i, i < ps.length → ¬ i = ps.length := fun i hi => by omega
  have hnt : ∀ i, i < t.length → ¬ i = t.length := fun i hi => by omega
  unfold two at ho
  refine ⟨((((f.zi nkC).zi nkC).zi nkC).zi nkC).zi nkC, a.add ?_ ?_ ?_ ?_ ?_ ?_ ?_ ?_ ?_, ?_⟩
  · unfold tl2; simp [zi1]; exact e39 28 (by simp)
  · unfold tl2; simp [zi1]; exact e39 31 (by simp)
  · unfold tl2; simp [zi1]
  · unfold tl2; simp [zi1]; exact e22
  · intro c hc
    unfold tl2
    rw [zi_ne (by omega), zi_ne (by omega), zi_ne (by omega), zi_ne (by omega), zi_ne (by omega)]
    exact e54 c (by omega)
  · intro i hi
    unfold tl2; simp [zi1, hnt i hi]; rw [e54 57 (by decide)]
  · unfold tl2; simp [zi1]
  · intro c i h1 h2 hi
    unfold tl2
    refine ⟨?_, ?_⟩
    · simp only [zi1, hne i hi, and_false, if_false]
      rw [if_neg (by omega), if_neg (by omega)]
      exact (eo c i h1 h2 hi).1
    · exact (eo c i h1 h2 hi).2
  · obtain ⟨p1, p2, p3, p4, p5, p6, p7, p8, p9, p10⟩ := pq
    unfold tl2
    refine ⟨?_, ?_, ?_, ?_, ?_, ?_, ?_, ?_, ?_, ?_, ?_⟩
    · simp [zi1, p1, pOp]
    · simp [zi1, p2, pPl]
    · simp [zi1, p3, pKd]
    · simp [zi2, p4, pLo]
    · simp [zi2, p5, pHi]
    · rw [mA_op (by unfold pOp; simp only; omega)]; simp [zi1, pA]
    · unfold mB; rw [if_neg (by unfold pOp; simp only; omega)]; simp [zi1, pB]
    · unfold mC; rw [if_neg (by unfold pOp; simp only; omega)]; simp [zi1, p8]
    · simp [zi1, pDp]
    · intro q; unfold pOp at q; simp only at q; omega
    · intro q; unfold pOp at q; simp only at q; omega
  · unfold tl2; simp [zi1]; rw [e39 24 (by simp)]; exact hf
theorem sp_two567 {h : zH} {ws : List Fr} {t : List Nat} {ps : List Pt} {op pl kd l r : Nat} {q1 q2 : Int} {post : zH → Prop} (a : RM h (ws, t, ps)) (hf : h.1 39 24 = 0) (ho : two op) (hB : Bas ps) (hlen : ps.length ≤ 100) (hw : ws.length ≤ 197) (ht : t.length ≤ 100) (hpl : pl < 100000) (hl : l < ps.length) (hr : r < ps.length) (e1 : h.2.1 39 32 = jL q1) (e2 : h.2.1 39 33 = jL q2)
    (hbad : ∀ e h', addp t ps (op, pl, kd, q1, q2, l, r, 0, 1 + max (pDp (pget ps l)) (pDp (pget ps r))) = .error e → BadM h h' e → post h')
    (hgood : ∀ q h', addp t ps (op, pl, kd, q1, q2, l, r, 0, 1 + max (pDp (pget ps l)) (pDp (pget ps r))) = .ok q → GoodM h h' (ws, q) → post h') : b_M_doTwo_567 post (nI (rop op)) (nI pl) (nI r) (nI l) (nI kd) h := by
  have dl := (hB l hl).2.1
  have dr := (hB r hr).2.1
  have pl' := (a.2.2.2.2.2.2 l hl).2.2.2.2.2.2.2.2.1
  have pr' := (a.2.2.2.2.2.2 r hr).2.2.2.2.2.2.2.2.1
  rw [Nat.zero_add] at pl' pr'
  simp only at pl' pr'
  unfold b_M_doTwo_567
  rw [e1, e2]
  refine sp_M_part5 a hf hlen hpl hw (fun c => ?_) (fun c h1 f e39 e54 eo e22 pq => ?_)
  · refine sp_aft2 (p := 0) (n := t.length) (by decide) (by omega) (by omega) (by omega) (by simp [zi1]; exact a.2.2.2.1) (by simp [zi1]; exact pl') (by simp [zi1]; exact pr') (by omega) (by omega) ?_
    simp only at c
    refine hbad (6 + 8 * pl) _ (by unfold addp; rw [if_neg (by omega)]; rfl) (bad_tl2 (by decide) (BadM.mk FK.rf a hw (by omega)))
  · simp only at c e22 pq eo
    refine sp_aft2 (p := ps.length) (n := t.length) (by omega) (by omega) (by omega) (by omega) (by rw [e39 30 (by simp)]; exact a.2.2.2.1) (by rw [(eo 52 l (by decide) (by decide) hl).1]; exact pl') (by rw [(eo 52 r (by decide) (by decide) hr).1]; exact pr') (by omega) (by omega) ?_
    exact hgood _ _ (by unfold addp; rw [if_pos c]) (good_tl2 a hf ho c f e39 e54 eo e22 pq)
theorem sp_two539 {h : zH} {ws : List Fr} {t : List Nat} {ps : List Pt} {op pl kd l r : Nat} {q1 q2 : Int} {post : zH → Prop} (a : RM h (ws, t, ps)) (hf : h.1 39 24 = 0) (ho : two op) (hB : Bas ps) (hlen : ps.length ≤ 100) (hw : ws.length ≤ 197) (ht : t.length ≤ 100) (hpl : pl < 100000) (hl : l < ps.length) (hr : r < ps.length) (e1 : h.2.1 39 32 = jL q1) (e2 : h.2.1 39 33 = jL q2) (s1 : sm q1) (s2 : sm q2)
    (hbad : ∀ e h', (if q1 < -EG ∨ EG < q2 then .error (4 + 8 * pl) else addp t ps (op, pl, kd, q1, q2, l, r, 0, 1 + max (pDp (pget ps l)) (pDp (pget ps r)))) = .error e → BadM h h' e → post h')
    (hgood : ∀ q h', (if q1 < -EG ∨ EG < q2 then .error (4 + 8 * pl) else addp t ps (op, pl, kd, q1, q2, l, r, 0, 1 + max (pDp (pget ps l)) (pDp (pget ps r)))) = .ok q → GoodM h h' (ws, q) → post h') : b_M_doTwo_539 post (nI (rop op)) (nI pl) (nI r) (nI l) (nI kd) h := by
  have dl := (hB l hl).2.1
  have dr := (hB r hr).2.1
  have pl' := (a.2.2.2.2.2.2 l hl).2.2.2.2.2.2.2.2.1
  have pr' := (a.2.2.2.2.2.2 r hr).2.2.2.2.2.2.2.2.1
  rw [Nat.zero_add] at pl' pr'
  simp only at pl' pr'
  have c1 : (-2000000000 : Int64) = jL (-2000000000) := rfl
  have c2 : (2000000000 : Int64) = jL 2000000000 := rfl
  have b561 : (q1 < -EG ∨ EG < q2) → b_M_doTwo_561 post (nI (rop op)) (nI pl) (nI r) (nI l) (nI kd) h := by
    intro q
    unfold b_M_doTwo_561
    refine sp_M_bad (a := 4) hf ?_
    unfold b_M_doTwo_567
    refine sp_M_part5_bad (e := 4 + 8 * pl) (by simp [zi1]) (by omega) ?_
    refine sp_aft2 (p := 0) (n := t.length) (by decide) (by omega) (by omega) (by omega) (by simp [zi1]; exact a.2.2.2.1) (by simp [zi1]; exact pl') (by simp [zi1]; exact pr') (by omega) (by omega) ?_
    exact hbad (4 + 8 * pl) _ (by rw [if_pos q]) (bad_tl2 (by decide) (BadM.mk FK.rf a hw (by omega)))
  have g567 : ¬ (q1 < -EG ∨ EG < q2) → b_M_doTwo_567 post (nI (rop op)) (nI pl) (nI r) (nI l) (nI kd) h := by
    intro q
    simp only [if_neg q] at hbad hgood
    exact sp_two567 a hf ho hB hlen hw ht hpl hl hr e1 e2 hbad hgood
  unfold b_M_doTwo_539
  rw [e1, e2, c1, c2]
  simp only [lg_cmp_lt, lg_cmp_le, j_lt s1 (show sm (-2000000000) by unfold sm; omega), j_le s2 (show sm 2000000000 by unfold sm; omega)]
  unfold EG at *
  exact ⟨fun q => b561 (by omega), fun q => ⟨fun q2 => g567 (by omega), fun q2 => b561 (by omega)⟩⟩
