theorem tok_okM {h : zH} {sg : Nat → Nat} {n nv i0 : Nat} (hR : RSm h sg n nv) (hi : i0 ≤ 600) : TkOk (tok sg n i0) := by
  have hRS : RS (zi (fun c i => if c = 6 then nI (sg i) else 0, h.2) 5 1 (nI n)) sg n := by
    refine ⟨by simp [zi1], hR.2.1, fun i hi => ⟨by simp [zi1], (hR.2.2.1 i hi).2⟩⟩
  exact tok_ok hRS hi
set_option maxHeartbeats 1000000 in
theorem sp_M_begins {h : zH} {sg : Nat → Nat} {n : Nat} {vr : Vr} {σ : St} {t : Tk} {post : Int32 → zH → Prop} (hv : VrOk vr) (hR : RSm h sg n vr.1) (hV : RVm h vr) (a : RM h σ) (hI : Iw 0 σ) (hf : h.1 39 24 = 0) (e8 : h.1 39 8 = nI (rop (tkM vr.1 t))) (ht : TkOk t) (e9 : h.1 39 9 = nI t.2.1) (e11 : t.1 = 2 ∨ t.1 = 3 → h.2.1 39 11 = jL (t.2.2.1 : Int)) (e10 : t.1 ≠ 0 → h.1 39 10 = nI t.2.2.2) (hp6 : t.1 ≠ 0 → t.1 ≠ 1 → t.2.2.2 ≤ n)
    (hbad : ∀ r e h', stepB vr t σ = .error e → BadW h h' e → post r h')
    (hleaf : ∀ σ' h', stepB vr t σ = .ok (2, σ') → GoodM h h' σ' → post 1 h')
    (hnest : ∀ σ' h', stepB vr t σ = .ok (0, σ') → GoodM h h' σ' → post 0 h')
    (hfun : ∀ σ' h', stepB vr t σ = .ok (1, σ') → t.1 ≠ 0 → t.1 ≠ 1 → (tok sg n t.2.2.2).1 = 4 → FK keepM h h' → RM h' σ' → h'.1 39 24 = 0 → h'.1 39 10 = nI (tok sg n t.2.2.2).2.2.2 → post 0 h')
    (hfunb : ∀ σ' h', stepB vr t σ = .ok (1, σ') → t.1 ≠ 0 → t.1 ≠ 1 → (tok sg n t.2.2.2).1 ≠ 4 → BadW h h' (1 + 8 * (tok sg n t.2.2.2).2.1) → post 0 h') : wp_M_begins h post := by
  have hpl := ht.2.1
  have h4 := hR.2.1
  have hlen := hI.1.len
  have hT : tkM vr.1 t < 28 := by unfold tkM; have := ht.1; split <;> omega
  have L := fun (b : Nat) (hb : b < 28) => ropI (a := tkM vr.1 t) b hT hb
  have es : ∀ x, stepB vr (tkM vr.1 t, t.2) σ = x → stepB vr t σ = x := by
    intro x hx
    have := stepM_tk (vr := vr) (m := 0) (t := t) (σ := σ)
    unfold stepM at this
    rw [if_pos rfl, if_pos rfl] at this
    rw [← this]; exact hx
  have l2 : nI (rop (tkM vr.1 t)) = 2 ↔ tkM vr.1 t = 2 := L 2 (by decide)
  have l3 : nI (rop (tkM vr.1 t)) = 3 ↔ tkM vr.1 t = 3 := L 3 (by decide)
  have l23 : nI (rop (tkM vr.1 t)) = 4 ↔ tkM vr.1 t = 23 := L 23 (by decide)
  have l24 : nI (rop (tkM vr.1 t)) = 5 ↔ tkM vr.1 t = 24 := L 24 (by decide)
  have l25 : nI (rop (tkM vr.1 t)) = 6 ↔ tkM vr.1 t = 25 := L 25 (by decide)
  have l20 : nI (rop (tkM vr.1 t)) = 33 ↔ tkM vr.1 t = 20 := L 20 (by decide)
  have l4 : nI (rop (tkM vr.1 t)) = 40 ↔ tkM vr.1 t = 4 := L 4 (by decide)
  have l10 : nI (rop (tkM vr.1 t)) = 45 ↔ tkM vr.1 t = 10 := L 10 (by decide)
  have tk1 : tkM vr.1 t ≠ 0 → tkM vr.1 t = t.1 ∧ ¬ (t.1 = 3 ∧ vr.1 ≤ t.2.2.1) := by
    unfold tkM
    intro z
    by_cases c : t.1 = 3 ∧ vr.1 ≤ t.2.2.1
    · rw [if_pos c] at z; omega
    · rw [if_neg c]; exact ⟨rfl, c⟩
  unfold wp_M_begins
  rw [e8, l2, l3, l23, l24, l25, l20, l4, l10]
  refine ⟨fun c => ?_, fun n2 => ⟨fun c => ?_, fun n3 => ?_⟩⟩
  · have e1 := (tk1 (by omega)).1
    rw [e11 (by omega), e9]
    refine sp_leafM (op := 2) (num := 0) a hI hf (Or.inl ⟨rfl, e11 (by omega), rfl⟩) hpl (fun e h' d b => hbad 1 e h' ?_ b.w) (fun σ' h' d b => hleaf σ' h' ?_ b)
    · unfold stepB; rw [if_pos (by omega)]; exact d
    · unfold stepB; rw [if_pos (by omega)]; exact d
  · obtain ⟨e1, e2⟩ := tk1 (by omega)
    have hn : t.2.2.1 < vr.1 := by omega
    have hv1 := hv.1
    obtain ⟨v1, v2, v3⟩ := hv.2 _ hn
    obtain ⟨u1, u2⟩ := hV _ hn
    rw [e11 (by omega), e9, j_nI (by omega), nI_clamp' (by omega), u1, u2, i2j v1, i2j v2]
    refine ⟨vp_in_nI (by omega) (by decide), vp_in_nI (by omega) (by decide), sp_leafM (op := 3) (num := t.2.2.1) a hI hf (Or.inr ⟨rfl, e11 (by omega)⟩) hpl (fun e h' d b => hbad 1 e h' ?_ b.w) (fun σ' h' d b => hleaf σ' h' ?_ b)⟩
    · unfold stepB; rw [if_neg (by omega), if_pos (by omega), if_pos hn]; exact d
    · unfold stepB; rw [if_neg (by omega), if_pos (by omega), if_pos hn]; exact d
  · have b160 : (tkM vr.1 t = 23 ∨ tkM vr.1 t = 24 ∨ tkM vr.1 t = 25) → b_M_begins_160 post h := by
      intro c
      have e1 := (tk1 (by omega)).1
      have sB : stepB vr t σ = nestS t.1 1 t.2.1 σ := by
        unfold stepB
        rw [if_neg (by omega), if_neg (by omega), if_neg (by omega), if_neg (by omega), if_pos (by omega)]
      have nx : ∀ h4, FK keepC h h4 → RSm h4 sg n vr.1 ∧ h4.1 39 10 = nI t.2.2.2 := by
        intro h4 f4
        exact ⟨hR.m f4.cm, by rw [(f4 39 10 (by unfold keepC; omega)).1]; exact e10 (by omega)⟩
      have tp := hp6 (by omega) (by omega)
      have hns : nsts t.1 = true := by
        have : t.1 = 23 ∨ t.1 = 24 ∨ t.1 = 25 := by omega
        rcases this with z | z | z <;> rw [z] <;> rfl
      unfold b_M_begins_160 b_M_begins_190
      rw [e8, e1]
      refine sp_M_enter (op := t.1) (pl := t.2.1) a hI.1 hf e9 hpl hns (fun c9 h4 d => ?_) (fun c9 h4 d => ?_)
      · obtain ⟨x1, x2⟩ := nx h4 d.1
        refine sp_M_next x1 (by omega) x2 (fun h6 y => ?_)
        have bw : BadW h h6 (5 + 8 * t.2.1) := by
          refine ⟨d.1.cm.tr y.1.tm, ?_, by omega⟩
          rw [(y.1 39 24 (by unfold keepT; omega)).1]; exact d.2.1
        have fin := hbad 0 _ h6 (by rw [sB]; unfold nestS; rw [if_pos c9]) bw
        exact ⟨fun _ => fin, fun _ => sp_M_bad_bad bw.ne.1 fin⟩
      · obtain ⟨x1, x2⟩ := nx h4 d.1
        refine sp_M_next x1 (by omega) x2 (fun h6 y => ?_)
        have tl : tkM vr.1 (tok sg n t.2.2.2) < 28 := by
          have hs := sgnm (i := 0) hR
          have : (tok sg n t.2.2.2).1 < 26 := by
            have hRS : RS (zi (fun c i => if c = 6 then nI (sg i) else 0, h.2) 5 1 (nI n)) sg n := by
              refine ⟨by simp [zi1], hR.2.1, fun i hi => ⟨by simp [zi1], (hR.2.2.1 i hi).2⟩⟩
            exact (tok_ok hRS (by omega)).1
          unfold tkM; split <;> omega
        have l4' : nI (rop (tkM vr.1 (tok sg n t.2.2.2))) = 40 ↔ tkM vr.1 (tok sg n t.2.2.2) = 4 := ropI 4 tl
        have t4 : tkM vr.1 (tok sg n t.2.2.2) = 4 ↔ (tok sg n t.2.2.2).1 = 4 := by
          unfold tkM
          by_cases c8 : (tok sg n t.2.2.2).1 = 3 ∧ vr.1 ≤ (tok sg n t.2.2.2).2.2.1
          · rw [if_pos c8]; omega
          · rw [if_neg c8]
        obtain ⟨y1, y2, y3, y4, y5⟩ := y
        have fm : FK keepM h h6 := d.1.cm.tr y1.tm
        have z6 : h6.1 39 24 = 0 := by rw [(y1 39 24 (by unfold keepT; omega)).1]; exact d.2.2
        have sB2 : stepB vr t σ = .ok (1, (t.1, t.2.1, 0) :: σ.1, σ.2) := by rw [sB]; unfold nestS; rw [if_neg c9]
        rw [y2, l4', t4, y3]
        refine ⟨fun q => ?_, fun q => sp_M_bad (a := 1) z6 ?_⟩
        · exact hfun _ h6 sB2 (by omega) (by omega) q fm (d.2.1.t y1) z6 (y5 (by omega))
        · refine hfunb _ _ sB2 (by omega) (by omega) q ⟨?_, by simp [zi1], ?_⟩
          · exact fm.zi (by unfold keepM; omega)
          · have hRS : RS (zi (fun c i => if c = 6 then nI (sg i) else 0, h.2) 5 1 (nI n)) sg n := by
              refine ⟨by simp [zi1], hR.2.1, fun i hi => ⟨by simp [zi1], (hR.2.2.1 i hi).2⟩⟩
            have := (tok_ok hRS (i0 := t.2.2.2) (by omega)).2.1
            omega
    have b142 : (tkM vr.1 t = 20 ∨ tkM vr.1 t = 4) → b_M_begins_142 post h := by
      intro c
      have e1 := (tk1 (by omega)).1
      have sB : stepB vr t σ = nestS t.1 0 t.2.1 σ := by
        unfold stepB
        rw [if_neg (by omega), if_neg (by omega), if_neg (by omega), if_pos (by omega)]
      have hns : nsts t.1 = true := by
        have : t.1 = 20 ∨ t.1 = 4 := by omega
        rcases this with z | z <;> rw [z] <;> rfl
      unfold b_M_begins_142
      rw [e8, e1]
      refine sp_M_enter (op := t.1) (pl := t.2.1) a hI.1 hf e9 hpl hns (fun c9 h4 d => ?_) (fun c9 h4 d => ?_)
      · exact hbad 0 _ h4 (by rw [sB]; unfold nestS; rw [if_pos c9]) d.w
      · exact hnest _ h4 (by rw [sB]; unfold nestS; rw [if_neg c9]) d
    refine ⟨fun c => b160 (by omega), fun n23 => ⟨fun c => b160 (by omega), fun n24 => ⟨fun c => b160 (by omega), fun n25 => ⟨fun c => b142 (by omega), fun n20 => ⟨fun c => b142 (by omega), fun n4 => ⟨fun c => ?_, fun n10 => ?_⟩⟩⟩⟩⟩⟩
    · have e1 := (tk1 (by omega)).1
      have sB : stepB vr t σ = nestS 26 0 t.2.1 σ := by
        unfold stepB
        rw [if_neg (by omega), if_neg (by omega), if_pos (by omega)]
      refine sp_M_enter (op := 26) (pl := t.2.1) a hI.1 hf e9 hpl rfl (fun c9 h4 d => ?_) (fun c9 h4 d => ?_)
      · exact hbad 0 _ h4 (by rw [sB]; unfold nestS; rw [if_pos c9]) d.w
      · exact hnest _ h4 (by rw [sB]; unfold nestS; rw [if_neg c9]) d
    · rw [e9]
      refine sp_M_bad (a := 1) hf (hbad 0 _ _ (es _ ?_) (BadM.mk FK.rf a hlen (by omega)).w)
      unfold stepB
      simp only
      rw [if_neg n2, if_neg n3, if_neg n10, if_neg (by omega), if_neg (by omega)]
