/-! value of both; rows for the law's own body -/
/-- behind the class's value, answered with r: the reference's value and whether it threw -/
def Pv (a : Int32) (r : Int32) (h : zH) : Prop := wp_M_value a h (fun r2 h2 => wp_M_thrown h2 (fun r3 h3 => r3 = r ∧ (r = 0 → h3.2.1 59 0 = r2) ∧ Inv h3))
theorem c_value {h : zH} (a : Int32) (hI : Inv h) : wp_R_value a h (fun r1 h1 => Pv a 0 (zl h1 59 0 r1)) ∨ (xTm (h.2.2 0 3) ∧ (a < 0 ∨ h.1 (h.2.2 0 3) 10 ≤ a ∨ 100 ≤ a) ∧ Pv a 1 h) := by
  obtain ⟨n, sg, vr, wv, ps, hS⟩ := hI
  obtain ⟨a1, a2, a3, a4, a5, a6, a7, a8, a9, a10, a11, a12, a13⟩ := id hS
  have hl := a6.2.2.1
  have no : (a < 0 ∨ ∃ i, i < 2147483648 ∧ a = nI i ∧ ps.length ≤ i) → Pv a 1 h := fun hn => sp_M_valueN a12 hl hn ⟨by simp [zi1], fun z => absurd z (by decide), n, sg, vr, wv, ps, hS.t0⟩
  by_cases ha : a < 0
  · exact Or.inr ⟨a4.1, Or.inl ha, no (Or.inl ha)⟩
  · obtain ⟨i, hi, rfl⟩ := i_nn ha
    by_cases hi2 : i < ps.length
    · refine Or.inl ⟨a4.1, sp_T_hasS a4.1 a5.1 hl hi2 ⟨by decide, a4.1, sp_T_worthOf a6 a4.1 hi2 a5 a3 (fun h1 e1 e2 e3 => ?_)⟩⟩
      have kk := xTm_ne a4.1
      have S1 : InvS (zl h1 59 0 (jL (vget wv ps i))) n sg vr wv ps := InvS.q (h := h) (fun c i _ => by show h1.1 c i = _; rw [e1]) (fun c g1 g2 => by
        have e4 : (zl h1 59 0 (jL (vget wv ps i))).2.1 c = h1.2.1 c := by
          funext j
          simp [zl]
          intro z; omega
        rw [e4, e3 c (by omega)]) (by show h1.2.2 = _; exact e2) hS
      refine sp_M_valueY S1 hi2 (fun h2 S2 z1 z2 => ⟨z1, fun _ => ?_, n, sg, vr, wv, ps, S2⟩)
      rw [z2]
      simp [zl]
    · refine Or.inr ⟨a4.1, Or.inr (Or.inl ?_), no (Or.inr ⟨i, hi, rfl, by omega⟩)⟩
      rw [a5.1]
      exact (nI_leI (by omega) hi).mpr (by omega)
section ZL
variable {p : Program} {l : Launch} {e : Env} {R : Room} {s : State} {m : MethodId} {args : Array Value} {below : List Frame} {meth : Method} {c : Code} {Q : State → Prop}
variable {cc : ByteArray} {nL : Nat} {own : String} {E : zE} {A : Nat → Prop} {kc ks : Nat} {G : (Nat → Prop) → State → Prop}
variable {h : zH} {pc : Nat} {lv : List (Option Value)} {rest : List Value}
theorem z_widen {k n : Nat} (h1 : kc ≤ k) (h2 : ks ≤ n) {st : List Value} (kk : ZW p l e R s m args below meth c Q xX E xcl A s.heap nL k n h pc lv st) : ZW p l e R s m args below meth c Q xX E xcl A s.heap nL kc ks h pc lv st := fun H locs ls hP hD hS hL => W.widen h1 h2 (kk H locs ls hP hD hS hL)
theorem z_sld (C : ZC p R s m args meth c cc nL zT own E xcl xN G A xX kc ks s.heap) {b L : Nat} {xs : Nat → Int32} (hX : va_X b L xs s s.heap) (hbl : b < s.heap.size) (hbA : ¬ A b) {i : Int32} (hin : vp_in i L) (hd : decode cc pc = .ok (.iaload, 1))
    (kk : ZW p l e R s m args below meth c Q xX E xcl A s.heap nL kc ks h (pc + 1) lv (.int (xs i.toNatClampNeg) :: rest)) : ZW p l e R s m args below meth c Q xX E xcl A s.heap nL kc ks h pc lv (.int i :: .ref b :: rest) := fun H locs ls hP hD hS hL => va_sld C.1.1 C.1.2.1 hX hbl hbA hS hin hd (kk H locs ls hP hD hS hL)
theorem z_slen (C : ZC p R s m args meth c cc nL zT own E xcl xN G A xX kc ks s.heap) {b L : Nat} {xs : Nat → Int32} (hX : va_X b L xs s s.heap) (hbl : b < s.heap.size) (hbA : ¬ A b) (hd : decode cc pc = .ok (.arraylength, 1))
    (kk : ZW p l e R s m args below meth c Q xX E xcl A s.heap nL kc ks h (pc + 1) lv (.int (Int32.ofNat L) :: rest)) : ZW p l e R s m args below meth c Q xX E xcl A s.heap nL kc ks h pc lv (.ref b :: rest) := fun H locs ls hP hD hS hL => va_slen C.1.1 C.1.2.1 hX hbl hbA hS hd (kk H locs ls hP hD hS hL)
/-- a call of a static method with handlers, that may make cells -/
theorem z_callSW (hGr : zGr G) (C : ZC p R s m args meth c cc nL zT own E xcl xN G A xX kc ks s.heap) {y : MethodName} {bytes : ByteArray} {maxL n i d2 w2 mc ms : Nat} {ret : Option FieldType} {hh : List (Nat × Nat × Nat × Nat)} {As st0 : List Value} {post : Int32 → zH → Prop} (hc : Cw l E G d2 w2 mc ms y bytes maxL ret hh As h (zPi post)) (w_ml : Cond.methodLink own i y ∈ zT) (w_st : Cond.static y ∈ zT) (w_it : Cond.initialized y.cls ∈ zT) (w_co : Cond.codeWith y bytes maxL ret hh ∈ zT) (hfr : d2 + 1 ≤ R.frames) (hlo : 8 + (maxL + 11) + w2 ≤ R.locals) (hpl : y.cls ≠ "java/lang/invoke/MethodHandle" ∧ y.cls ≠ "java/lang/invoke/VarHandle" ∧ (parseMethodDescriptor y.desc).map (fun d => d.parameters.length) = some n) (hn : As.length = n) (hst : st0 = As.reverse ++ rest) (hW : (rest.map fun v => v.category).sum ≤ 8) (hd : decode cc pc = .ok (.invokestatic i, 3)) (hcells : kc + mc ≤ R.cells) (hslots : ks + ms ≤ R.slots) (kk : ∀ (v : Int32) (h2 : zH), post v h2 → ZW p l e R s m args below meth c Q xX E xcl A s.heap nL (kc + mc) (ks + ms) h2 (pc + 3) lv (.int v :: rest)) : ZW p l e R s m args below meth c Q xX E xcl A s.heap nL kc ks h (pc) lv (st0) := by
  intro H locs ls hP hD hS hL T0 hT X0
  have hF := z_in C hD hS
  have hpv := z_pre (av := As) ⟨xN_ok, hGr⟩ C hS hP hD
  subst hst
  have hz := C.1.2.2.2.2
  obtain ⟨mk, methY, cY, hnY, hmY, hcY, -, hlY, -, -, -, hsigY⟩ := Cond.codeWith_spec (hz _ w_co)
  have hws : ∀ w ∈ (Cond.codeWith y bytes maxL ret hh :: zT), ∀ (a' : Array Value) (U : State), s.WarmedH U.vm → w.before a' U = true := zT_good.pay hz w_co
  have hK : Back l R p e below s args y 3 8 (PreOf R mc ms (va_Pc As (zB xX E xcl xN G h H.size))) (PostOf (zQ xX E xcl (zA xX E H.size) (zPi post)) mc ms (zA xX E H.size)) := va_backW (hh := hh) (bytes := bytes) (maxL := maxL) (ret := ret) (hc H.size) hpv.1 rfl rfl hfr hlo hws List.mem_cons_self (fun a' U hW => word_at hW (zT_good _ w_it) (hz _ w_it))
  obtain ⟨v, vm₁, ⟨U', l2, c2, s2⟩, hW₁, X', ⟨g', mk2, t, L, e1, e2, hq, h1, hL2, h2, h3⟩, st⟩ := X0.staticBack C.1.1 C.1.2.2.2.1 (hz _ w_ml) (hz _ w_st) (hz _ w_it) hnY hmY hsigY ⟨hpl.1, hpl.2.1⟩ hK (g := F0 m pc ls (As.reverse ++ rest)) rfl (hL.1.trans C.1.2.2.1.symm) (Steps.refl _) (argsL := As) (rest := rest) (fun sig hs => hn.trans (z_lens hpl.2.2 sig hs)) rfl (lv_room hW) (by rw [C.1.2.1]; exact hd)
    (fun vm₁ hW₁ => ⟨hcells, hslots, hpv.2 (T0.setVm vm₁) hT hW₁⟩)
  dsimp only [Pt.U, Pt.locs, Pt.cells, Pt.slots] at X' e1 e2 h1 h2 h3 st
  subst h1; subst h2; subst h3
  obtain ⟨⟨r2, h4, hv, ⟨x, rfl, hpo⟩, hP2⟩, hz2, hk⟩ := hq
  cases hv
  have hh0 : ((T0.setVm vm₁).calling g' mk2 As.toArray).heap = H := hT
  rw [hh0] at hz2 hk
  have hS2 : va_S A s.heap U'.heap (locs ++ L) := ⟨Nat.le_trans hS.1 (by rw [e1]; exact hz2), fun q g1 g2 => by rw [e1, hk q (Nat.lt_of_lt_of_le g1 hS.1) (fun z => g2 (hF q z))]; exact hS.2.1 q g1 g2, fun q hq => by
      rcases List.mem_append.mp hq with h | h
      · exact hS.2.2 q h
      · exact hF _ (hL2 q h)⟩
  obtain ⟨t2, a1, b1⟩ := kk x h4 hpo U'.heap (locs ++ L) ls (by rw [e1]; exact hP2) (zw_D hD) hS2 hL U' rfl X'
  exact ⟨t2, st.trans a1, b1⟩
end ZL
