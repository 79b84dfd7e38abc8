def keepF (c i : Nat) : Prop := c < 39 ∨ 58 ≤ c ∨ (40 ≤ c ∧ c ≤ 43) ∨ (c = 39 ∧ (i = 0 ∨ i = 1 ∨ i = 6 ∨ i = 7))
def keepB (c i : Nat) : Prop := ¬ (44 ≤ c ∧ c ≤ 53 ∧ 100 ≤ i)
theorem nkB {c i : Nat} (h : ¬ keepB c i := by unfold keepB; omega) : ¬ keepB c i := h
set_option maxHeartbeats 2000000 in
theorem sp_copy {ps : List Pt} {post : Int32 → zH → Prop} (hl : ps.length ≤ 100) : ∀ (k j : Nat) (h : zH), ps.length - j ≤ k → j ≤ ps.length → RMt h 0 ps → (∀ i, i < j → PtM h (100 + i) (pget ps i)) → h.1 39 22 = nI ps.length → (∀ h', FK keepB h h' → RMt h' 100 ps → post 0 h') → b_M_take_146 post (k + 1) (nI j) h := by
  intro k
  induction k with
  | zero =>
    intro j h hk hj a b e22 hq
    unfold b_M_take_146
    rw [e22, nI_leI (by omega) (by omega)]
    exact ⟨fun _ => hq h FK.rf (fun i hi => b i (by omega)), fun q => absurd q (by omega)⟩
  | succ k ih =>
    intro j h hk hj a b e22 hq
    unfold b_M_take_146
    rw [e22, nI_leI (by omega) (by omega)]
    refine ⟨fun q => hq h FK.rf (fun i hi => b i (by omega)), fun q => ?_⟩
    have hjl : j < ps.length := by omega
    have e100 : (100 : Int32) + nI j = nI (100 + j) := nI_add 100 j
    have v1 : vp_in (nI j) 200 := vp_in_nI (by omega) (by decide)
    have v2 : vp_in (nI (100 + j)) 200 := vp_in_nI (by omega) (by decide)
    rw [e100, nI_clamp' (show 100 + j < 2147483648 by omega), nI_clamp' (show j < 2147483648 by omega), nI_1]
    refine ⟨v1, v2, fun h5 g5 => ⟨v1, v2, fun h6 g6 => ⟨v1, v2, fun h7 g7 => ⟨v1, v2, fun h8 g8 => ⟨v1, v2, fun h9 g9 => ⟨v1, v2, fun h10 g10 => ⟨v1, v2, fun h11 g11 => ⟨v1, v2, fun h12 g12 => ⟨v1, v2, fun h13 g13 => ⟨v1, v2, fun h14 g14 => ?_⟩⟩⟩⟩⟩⟩⟩⟩⟩⟩
    have hne : ¬ j = 100 + j := by omega
    have f14 : FK keepB h h14 := by
      rw [g14, g13, g12, g11, g10, g9, g8, g7, g6, g5]
      exact (((((((((FK.rf.zi nkB).zi nkB).zi nkB).zl nkB).zl nkB).zi nkB).zi nkB).zi nkB).zi nkB).zl nkB
    have old : ∀ c i, 44 ≤ c → c ≤ 53 → i ≠ 100 + j → h14.1 c i = h.1 c i ∧ h14.2.1 c i = h.2.1 c i := by
      intro c i h1 h2 h3
      rw [g14, g13, g12, g11, g10, g9, g8, g7, g6, g5]
      simp only [zi1, zi2, zl1, zl2, h3, and_false, if_false]
      exact ⟨trivial, trivial⟩
    have p := a j hjl
    rw [Nat.zero_add] at p
    obtain ⟨p1, p2, p3, p4, p5, p6, p7, p8, p9, p10, p11⟩ := p
    refine ih (j + 1) h14 (by omega) (by omega) ?_ ?_ ?_ (fun h' f' r' => hq h' (f14.tr f') r')
    · refine RMt.same (h := h) (fun c i h1 h2 h3 => ?_) a
      rw [Nat.zero_add]
      exact old c i h1 h2 (by omega)
    · intro i hi
      by_cases c : i = j
      · subst c
        refine ⟨?_, ?_, ?_, ?_, ?_, ?_, ?_, ?_, ?_, fun z => ?_, fun z => ?_⟩
        · rw [g14, g13, g12, g11, g10, g9, g8, g7, g6, g5]; simp [zi1, zl1]; exact p1
        · rw [g14, g13, g12, g11, g10, g9, g8, g7, g6]; simp [zi1, zl1]; rw [g5]; simp [zi1]; exact p2
        · rw [g14, g13, g12, g11, g10, g9, g8, g7]; simp [zi1, zl1]; rw [g6, g5]; simp [zi1]; exact p3
        · rw [g14, g13, g12, g11, g10, g9, g8]; simp [zi2, zl2]; rw [g7, g6, g5]; simp [zi2]; exact p4
        · rw [g14, g13, g12, g11, g10, g9]; simp [zi2, zl2]; rw [g8, g7, g6, g5]; simp [zi2, zl2]; exact p5
        · rw [g14, g13, g12, g11, g10]; simp [zi1, zl1]; rw [g9, g8, g7, g6, g5]; simp [zi1, zl1]; exact p6
        · rw [g14, g13, g12, g11]; simp [zi1, zl1]; rw [g10, g9, g8, g7, g6, g5]; simp [zi1, zl1]; exact p7
        · rw [g14, g13, g12]; simp [zi1, zl1]; rw [g11, g10, g9, g8, g7, g6, g5]; simp [zi1, zl1]; exact p8
        · rw [g14, g13]; simp [zi1, zl1]; rw [g12, g11, g10, g9, g8, g7, g6, g5]; simp [zi1, zl1]; exact p9
        · rw [g14]; simp [zl2]; rw [g13, g12, g11, g10, g9, g8, g7, g6, g5]; simp [zi2, zl2]; exact p10 z
        · rw [g14]; simp [zl2]; rw [g13, g12, g11, g10, g9, g8, g7, g6, g5]; simp [zi2, zl2]; exact p11 z
      · exact (b i (by omega)).same (fun c h1 h2 => old c (100 + i) h1 h2 (by omega))
    · rw [(f14 39 22 (by unfold keepB; omega)).1]; exact e22
def TkB (h h' : zH) (e : Nat) : Prop := FK keepM h h' ∧ (0 < e ∧ e < 1000000)
def TkG (h h' : zH) (ps : List Pt) : Prop := FK keepF h h' ∧ RMt h' 100 ps ∧ h'.1 39 23 = nI ps.length
theorem sp_124b {h h' : zH} {e : Nat} {post : Int32 → zH → Prop} (b : BadW h h' e) (hq : post (nI e) h') : b_M_take_124 post h' := by
  unfold b_M_take_124
  refine ⟨fun q => absurd q b.ne.2, fun _ => ?_⟩
  rw [b.2.1]; exact hq
theorem sp_124g {h h' : zH} {σ : St} {post : Int32 → zH → Prop} (f : FK keepM h h') (a : RM h' σ) (z : h'.1 39 24 = 0) (hl : σ.2.2.length ≤ 100) (hq : ∀ h9, TkG h h9 σ.2.2 → post 0 h9) : b_M_take_124 post h' := by
  have e22 := a.2.2.2.2.2.1
  unfold b_M_take_124
  rw [z, e22]
  refine ⟨fun _ h15 g15 => ?_, fun q => absurd (by decide) q⟩
  have a15 : RM h15 σ := by rw [g15]; exact a.z39 (by omega)
  refine ⟨σ.2.2.length + 1, sp_copy hl σ.2.2.length 0 h15 (by omega) (by omega) a15.2.2.2.2.2.2 (fun i hi => absurd hi (by omega)) a15.2.2.2.2.2.1 (fun h9 f9 r9 => hq h9 ⟨?_, r9, ?_⟩)⟩
  · have f15 : FK keepF h h15 := by
      rw [g15]
      exact (f.up (fun c i k => by unfold keepF at k; unfold keepM; omega)).zi (by unfold keepF; omega)
    exact f15.tr (f9.up (fun c i k => by unfold keepF at k; unfold keepB; omega))
  · rw [(f9 39 23 (by unfold keepB; omega)).1, g15]; simp [zi1]
set_option maxHeartbeats 1000000 in
theorem sp_take52 {n : Nat} {sg : Nat → Nat} {vr : Vr} {post : Int32 → zH → Prop} (hv : VrOk vr) : ∀ (N fu m i : Nat) (σ : St) (h : zH), fu < N → n - i < fu → i ≤ n → RSm h sg n vr.1 → RVm h vr → RM h σ → Iw m σ → (m = 0 ∨ (m = 2 ∧ topS σ.1 < 5)) → h.1 39 24 = 0 → h.1 39 10 = nI i →
    (∀ e h', runT sg n vr fu m i σ = .error e → TkB h h' e → post (nI e) h') → (∀ ps h', runT sg n vr fu m i σ = .ok ps → TkG h h' ps → 0 < ps.length → ps.length ≤ 100 → Bas ps → post 0 h') → b_M_take_52 post N (if m = 0 then 1 else 0) 0 h := by
  intro N
  induction N with
  | zero => intro fu m i σ h hN; omega
  | succ N ih =>
    intro fu m i σ h hN hfu hin hR hV a hI hm hf e10 hbad hgood
    have h4 := hR.2.1
    -- a fault ends the loop
    have stop : ∀ (N' : Nat) (x y : Int32) (e : Nat) (h' : zH), 0 < N' → runT sg n vr fu m i σ = .error e → BadW h h' e → b_M_take_52 post N' x y h' := by
      intro N' x y e h' hN' he b
      cases N' with
      | zero => omega
      | succ N' =>
        have g := sp_124b b (hbad e h' he ⟨b.1, b.2.2⟩)
        unfold b_M_take_52
        exact ⟨fun _ => g, fun _ => ⟨fun _ => g, fun z => absurd z b.ne.1⟩⟩
    obtain ⟨fu, rfl⟩ : ∃ k, fu = k + 1 := ⟨fu - 1, by omega⟩
    have stop' : ∀ (x y : Int32) (e : Nat) (h' : zH), runT sg n vr (fu + 1) m i σ = .error e → BadW h h' e → b_M_take_52 post N x y h' := fun x y e h' he b => stop N x y e h' (by omega) he b
    have tp := tok_pos (sg := sg) (n := n) hin
    have tO := tok_okM (i0 := i) hR (by omega)
    have rE : ∀ e, stepM vr m (tok sg n i) σ = .error e → runT sg n vr (fu + 1) m i σ = .error e := by
      intro e he; rw [runT, he]
    have rO : ∀ m' σ', stepM vr m (tok sg n i) σ = .ok (m', σ') → m' ≠ 3 → runT sg n vr (fu + 1) m i σ = runT sg n vr fu m' (tok sg n i).2.2.2 σ' := by
      intro m' σ' he h3; rw [runT, he]; simp only; rw [if_neg h3]
    have nt : ∀ m' σ', stepM vr m (tok sg n i) σ = .ok (m', σ') → m' ≠ 3 → (tok sg n i).1 ≠ 0 ∧ (tok sg n i).1 ≠ 1 := by
      intro m' σ' he h3
      exact ⟨fun e => h3 (stepM_end (Or.inl e) he), fun e => h3 (stepM_end (Or.inr e) he)⟩
    unfold b_M_take_52
    refine ⟨fun q => absurd rfl q, fun _ => ⟨fun q => absurd hf q, fun _ => sp_M_next hR (by omega) e10 (fun h1 y => ?_)⟩⟩
    obtain ⟨y1, y2, y3, y4, y5⟩ := y
    have f1 : FK keepM h h1 := y1.tm
    have R1 := hR.m f1
    have V1 := hV.m f1
    have a1 := a.t y1
    have z1 : h1.1 39 24 = 0 := by rw [(y1 39 24 (by unfold keepT; omega)).1]; exact hf
    -- on with the loop
    have goon : ∀ (m' fu' : Nat) (i' : Nat) (σ' : St) (h' : zH), fu' ≤ fu → n - i' < fu' → i' ≤ n → FK keepM h h' → RM h' σ' → Iw m' σ' → (m' = 0 ∨ (m' = 2 ∧ topS σ'.1 < 5)) → h'.1 39 24 = 0 → h'.1 39 10 = nI i' → runT sg n vr (fu + 1) m i σ = runT sg n vr fu' m' i' σ' → b_M_take_52 post N (if m' = 0 then 1 else 0) 0 h' := by
      intro m' fu' i' σ' h' q1 q2 q3 f' a' I' hm' z' e' er
      refine ih fu' m' i' σ' h' (by omega) q2 q3 (hR.m f') (hV.m f') a' I' hm' z' e' (fun e h9 c b => hbad e h9 (er.trans c) ⟨f'.tr b.1, b.2⟩) (fun ps h9 c b => hgood ps h9 (er.trans c) ⟨(f'.up (fun c i k => by unfold keepF at k; unfold keepM; omega)).tr b.1, b.2⟩)
    rcases hm with rfl | ⟨rfl, hT⟩
    · -- a part begins
      refine ⟨fun q => absurd q (by decide), fun _ => ?_⟩
      have fb : ∀ (r : Int32) (e : Nat) (h' : zH), runT sg n vr (fu + 1) 0 i σ = .error e → BadW h1 h' e → ((¬ r = 0 → b_M_take_83 post (b_M_take_52 post N) 0 0 h') ∧ (r = 0 → b_M_take_83 post (b_M_take_52 post N) 0 1 h')) := by
        intro r e h' he b
        have g : ∀ x, b_M_take_52 post N x 0 h' := fun x => stop' x 0 e h' he (b.pre f1)
        unfold b_M_take_83
        exact ⟨fun _ => ⟨fun _ => g 0, fun _ => ⟨fun _ => g 0, fun z => absurd z b.ne.1⟩⟩, fun _ => ⟨fun _ => g 1, fun z => absurd z (by decide)⟩⟩
      refine sp_M_begins hv R1 V1 a1 hI z1 y2 tO y3 y4 y5 (fun c0 c1 => (tp c0 c1).2) ?_ ?_ ?_ ?_ ?_
      · intro r e h' c b
        exact fb r e h' (rE e c) b
      · intro σ' h' c b
        have c' : stepM vr 0 (tok sg n i) σ = .ok (2, σ') := c
        obtain ⟨n0, n1⟩ := nt 2 σ' c' (by decide)
        obtain ⟨t1, t2⟩ := tp n0 n1
        have I2 := (stepB_inv hv tO hI c).2
        have fb' : FK keepM h h' := f1.tr b.1.cm
        have e10' : h'.1 39 10 = nI (tok sg n i).2.2.2 := by rw [(b.1 39 10 (by unfold keepC; omega)).1]; exact y5 n0
        refine ⟨fun _ => ?_, fun z => absurd z (by decide)⟩
        unfold b_M_take_83
        refine ⟨fun z => absurd rfl z, fun _ => ⟨fun z => absurd b.2.2 z, fun _ => ?_⟩⟩
        refine sp_M_wasRead b.2.1 I2 b.2.2 (fun e h9 d1 d2 => ?_) (fun s h9 d1 d2 => ?_)
        · exact stop' 0 0 e h9 (by rw [rO 2 σ' c' (by decide)]; exact runT_ster (by omega) d1) (d2.w.pre fb')
        · obtain ⟨J1, J2⟩ := stl_Iv (by decide) _ _ _ s (show Iv (σ'.1, σ'.2.1, σ'.2.2) from I2.iv) d1
          have F2 : Fok s.1 := I2.1.settled d1
          exact goon 2 fu _ s h9 (by omega) (by omega) t2 (fb'.tr d2.1.cm) d2.2.1 (J1.iw F2) (Or.inr ⟨rfl, J2⟩) d2.2.2 (by rw [(d2.1 39 10 (by unfold keepC; omega)).1]; exact e10') (by rw [rO 2 σ' c' (by decide), runT_stl d1])
      · intro σ' h' c b
        have c' : stepM vr 0 (tok sg n i) σ = .ok (0, σ') := c
        obtain ⟨n0, n1⟩ := nt 0 σ' c' (by decide)
        obtain ⟨t1, t2⟩ := tp n0 n1
        have I2 := (stepB_inv hv tO hI c).2
        refine ⟨fun z => absurd rfl z, fun _ => ?_⟩
        unfold b_M_take_83
        refine ⟨fun _ => ?_, fun z => absurd z (by decide)⟩
        exact goon 0 fu _ σ' h' (by omega) (by omega) t2 (f1.tr b.1.cm) b.2.1 I2 (Or.inl rfl) b.2.2 (by rw [(b.1 39 10 (by unfold keepC; omega)).1]; exact y5 n0) (rO 0 σ' c' (by decide))
      · intro σ' h' c n0 n1 c4 f' a' z' e'
        have c' : stepM vr 0 (tok sg n i) σ = .ok (1, σ') := c
        obtain ⟨t1, t2⟩ := tp n0 n1
        have I2 := (stepB_inv hv tO hI c).2
        simp only at I2
        obtain ⟨u1, u2⟩ := tok_pos (sg := sg) (n := n) t2 (by omega) (by omega)
        have I3 : Iw 0 σ' := ⟨I2.1, I2.2.1, I2.2.2.1, by have := I2.2.2.2.1; rw [if_neg (by decide)] at this; rw [if_neg (by decide)]; exact this, I2.2.2.2.2⟩
        obtain ⟨fv, rfl⟩ : ∃ k, fu = k + 1 := ⟨fu - 1, by omega⟩
        refine ⟨fun z => absurd rfl z, fun _ => ?_⟩
        unfold b_M_take_83
        refine ⟨fun _ => ?_, fun z => absurd z (by decide)⟩
        refine goon 0 fv _ σ' h' (by omega) (by omega) u2 (f1.tr f') a' I3 (Or.inl rfl) z' e' ?_
        rw [rO 1 σ' c' (by decide), runT]
        unfold stepM
        rw [if_neg (by decide), if_pos rfl, if_pos c4]
        simp
      · intro σ' h' c n0 n1 c4 b
        have c' : stepM vr 0 (tok sg n i) σ = .ok (1, σ') := c
        obtain ⟨t1, t2⟩ := tp n0 n1
        obtain ⟨fv, rfl⟩ : ∃ k, fu = k + 1 := ⟨fu - 1, by omega⟩
        refine fb 0 _ h' ?_ b
        rw [rO 1 σ' c' (by decide), runT]
        unfold stepM
        rw [if_neg (by decide), if_pos rfl, if_neg c4]
    · -- an operator is wanted
      refine ⟨fun _ => ?_, fun q => absurd rfl q⟩
      have tT : tkM vr.1 (tok sg n i) < 26 := by unfold tkM; have := tO.1; split <;> omega
      have l1 : nI (rop (tkM vr.1 (tok sg n i))) = 1 ↔ tkM vr.1 (tok sg n i) = 1 := ropI 1 (by omega)
      have t1' : tkM vr.1 (tok sg n i) = 1 ↔ (tok sg n i).1 = 1 := by
        unfold tkM
        by_cases c8 : (tok sg n i).1 = 3 ∧ vr.1 ≤ (tok sg n i).2.2.1
        · rw [if_pos c8]; omega
        · rw [if_neg c8]
      have eS : ∀ x, stepO (tkM vr.1 (tok sg n i), (tok sg n i).2) σ = x → stepM vr 2 (tok sg n i) σ = x := by
        intro x hx
        rw [stepO_tk] at hx; exact hx
      have core : ∀ s0 : Int32, ((tok sg n i).1 = 1 → ¬ s0 = 0) → ((tok sg n i).1 ≠ 1 → s0 = 0) → b_M_take_115 post (b_M_take_52 post N) s0 h1 := by
        intro s0 hs1 hs0
        unfold b_M_take_115
        refine sp_M_goesOn (t := (tkM vr.1 (tok sg n i), (tok sg n i).2)) a1 hI hT z1 y2 ⟨tT, tO.2⟩ y3 ?_ ?_ ?_ ?_ ?_
        · intro r e h' c b
          exact stop' r s0 e h' (rE e (eS _ c)) (b.w.pre f1)
        · intro σ' h' c b
          have c' := eS _ c
          obtain ⟨n0, n1⟩ := nt 0 σ' c' (by decide)
          obtain ⟨t1, t2⟩ := tp n0 n1
          have I2 : Iw 0 σ' := by
            rcases stepM_inv hv tO (by decide) hI c' with ⟨w, _⟩ | ⟨_, w⟩
            · simp only at w; omega
            · exact w
          rw [hs0 n1]
          exact goon 0 fu _ σ' h' (by omega) (by omega) t2 (f1.tr b.1.cm) b.2.1 I2 (Or.inl rfl) b.2.2 (by rw [(b.1 39 10 (by unfold keepC; omega)).1]; exact y5 n0) (rO 0 σ' c' (by decide))
        · intro σ' h' c b
          have c' := eS _ c
          have c1 : (tok sg n i).1 = 1 := t1'.mp (stepO3 c)
          obtain ⟨w1, w2, w3⟩ : (3 = 3 ∧ σ'.1 = [] ∧ Iw 2 σ') := by
            rcases stepM_inv hv tO (by decide) hI c' with w | ⟨w, _⟩
            · exact w
            · simp only at w; omega
          have hl : 0 < σ'.2.2.length := by
            have := w3.2.2.2.1
            have := w3.2.2.2.2.1
            rw [if_pos rfl] at *
            omega
          have g : b_M_take_124 post h' := sp_124g (h := h) (f1.tr b.1.cm) b.2.1 b.2.2 w3.2.2.2.2.2 (fun h9 d => hgood σ'.2.2 h9 (by rw [runT, c']; simp) d hl w3.2.2.2.2.2 w3.2.1)
          cases N with
          | zero => omega
          | succ N =>
            unfold b_M_take_52
            exact ⟨fun _ => g, fun z => absurd z (hs1 c1)⟩
        · intro σ1 e h' c d b
          have c' := eS _ c
          obtain ⟨n0, n1⟩ := nt 2 σ1 c' (by decide)
          obtain ⟨t1, t2⟩ := tp n0 n1
          exact stop' 0 s0 e h' (by rw [rO 2 σ1 c' (by decide)]; exact runT_ster (by omega) d) (b.w.pre f1)
        · intro σ1 s h' c d b
          have c' := eS _ c
          obtain ⟨n0, n1⟩ := nt 2 σ1 c' (by decide)
          obtain ⟨t1, t2⟩ := tp n0 n1
          have I2 : Iw 2 σ1 := by
            rcases stepM_inv hv tO (by decide) hI c' with ⟨w, _⟩ | ⟨_, w⟩
            · simp only at w; omega
            · exact w
          obtain ⟨J1, J2⟩ := stl_Iv (by decide) _ _ _ s (show Iv (σ1.1, σ1.2.1, σ1.2.2) from I2.iv) d
          have F2 : Fok s.1 := I2.1.settled d
          rw [hs0 n1]
          exact goon 2 fu _ s h' (by omega) (by omega) t2 (f1.tr b.1.cm) b.2.1 (J1.iw F2) (Or.inr ⟨rfl, J2⟩) b.2.2 (by rw [(b.1 39 10 (by unfold keepC; omega)).1]; exact y5 n0) (by rw [rO 2 σ1 c' (by decide), runT_stl d])
      rw [y2, l1, t1']
      exact ⟨fun q => core 0 (fun z => absurd z q) (fun _ => rfl), fun q => core 1 (fun _ => by decide) (fun z => absurd q z)⟩
/-- what the reference's take leaves alone -/
def keepK (c i : Nat) : Prop := c < 39 ∨ 58 ≤ c ∨ (40 ≤ c ∧ c ≤ 43) ∨ (c = 39 ∧ i = 1)
theorem sp_M_take {h : zH} {sg : Nat → Nat} {n : Nat} {vr : Vr} {post : Int32 → zH → Prop} (hv : VrOk vr) (e6 : h.1 39 6 = nI n) (hn : n ≤ 400) (hs : ∀ i, i < n → h.1 43 i = nI (sg i) ∧ 32 ≤ sg i ∧ sg i ≤ 126) (e1 : h.1 39 1 = nI vr.1) (hV : RVm h vr)
    (hbad : ∀ e h', runT sg n vr (n + 1) 0 0 St0 = .error e → FK keepK h h' → (∀ c i, 44 ≤ c → c ≤ 53 → 100 ≤ i → h'.1 c i = h.1 c i ∧ h'.2.1 c i = h.2.1 c i) → h'.1 39 23 = h.1 39 23 → h'.1 39 0 = 0 → h'.1 39 6 = 0 → (0 < e ∧ e < 1000000) → post (nI e) h')
    (hgood : ∀ ps h', runT sg n vr (n + 1) 0 0 St0 = .ok ps → FK keepK h h' → RMt h' 100 ps → h'.1 39 23 = nI ps.length → h'.1 39 0 = 0 → h'.1 39 6 = 0 → 0 < ps.length → ps.length ≤ 100 → Bas ps → post 0 h') : wp_M_take h post := by
  unfold wp_M_take
  intro h20 g20 h21 g21 h22 g22 h23 g23 h24 g24 h25 g25 h26 g26 h27 g27 h28 g28
  have e6' : h20.1 39 6 = nI n := by rw [g20]; simp [zi1]; exact e6
  rw [e6'] at g21
  have hv1 := hv.1
  have nk : ∀ j, j ≠ 1 → ¬ keepK 39 j := by intro j hj; unfold keepK; omega
  have f28 : FK keepK h h28 := by
    rw [g28, g27, g26, g25, g24, g23, g22, g21, g20]
    exact ((((((((FK.rf.zi (nk _ (by decide))).zi (nk _ (by decide))).zi (nk _ (by decide))).zi (nk _ (by decide))).zi (nk _ (by decide))).zi (nk _ (by decide))).zi (nk _ (by decide))).zi (nk _ (by decide))).zi (nk _ (by decide))
  have o : ∀ c, c ≠ 39 → h28.1 c = h.1 c ∧ h28.2.1 c = h.2.1 c := by
    intro c hc
    rw [g28, g27, g26, g25, g24, g23, g22, g21, g20]
    exact ⟨by rw [zi_ne hc, zi_ne hc, zi_ne hc, zi_ne hc, zi_ne hc, zi_ne hc, zi_ne hc, zi_ne hc, zi_ne hc], rfl⟩
  have s : ∀ j, h28.1 39 j = if j = 31 then 0 else if j = 30 then 0 else if j = 28 then 0 else if j = 24 then 0 else if j = 22 then 0 else if j = 10 then 0 else if j = 6 then 0 else if j = 7 then nI n else if j = 0 then 0 else h.1 39 j := by
    intro j
    rw [g28, g27, g26, g25, g24, g23, g22, g21, g20]
    simp [zi1]
  have R : RSm h28 sg n vr.1 := by
    refine ⟨by rw [s]; simp, hn, fun i hi => ⟨by rw [(o 43 (by decide)).1]; exact (hs i hi).1, (hs i hi).2⟩, by rw [s]; simp; exact e1, hv.1⟩
  have V : RVm h28 vr := fun j hj => by rw [(o 40 (by decide)).1, (o 41 (by decide)).1]; exact hV j hj
  have a : RM h28 St0 := by
    refine ⟨by rw [s]; simp [St0]; rfl, by rw [s]; simp [St0]; rfl, trivial, by rw [s]; simp [St0]; rfl, trivial, by rw [s]; simp [St0]; rfl, fun i hi => absurd hi (by simp [St0])⟩
  refine ⟨n + 2, sp_take52 hv (n + 2) (n + 1) 0 0 St0 h28 (by omega) (by omega) (by omega) R V a Iw0 (Or.inl rfl) (by rw [s]; simp) (by rw [s]; simp; rfl) (fun e h' c b => ?_) (fun ps h' c b b1 b2 b3 => ?_)⟩
  · refine hbad e h' c (f28.tr (b.1.up (fun c i k => by unfold keepK at k; unfold keepM; omega))) (fun c i h1 h2 h3 => ?_) ?_ ?_ ?_ b.2
    · obtain ⟨x1, x2, _⟩ := b.1 c i (by unfold keepM; omega)
      rw [x1, x2, (o c (by omega)).1, (o c (by omega)).2]
      exact ⟨rfl, rfl⟩
    · rw [(b.1 39 23 (by unfold keepM; omega)).1, s]; simp
    · rw [(b.1 39 0 (by unfold keepM; omega)).1, s]; simp
    · rw [(b.1 39 6 (by unfold keepM; omega)).1, s]; simp
  · refine hgood ps h' c (f28.tr (b.1.up (fun c i k => by unfold keepK at k; unfold keepF; omega))) b.2.1 b.2.2 ?_ ?_ b1 b2 b3
    · rw [(b.1 39 0 (by unfold keepF; omega)).1, s]; simp
    · rw [(b.1 39 6 (by unfold keepF; omega)).1, s]; simp
