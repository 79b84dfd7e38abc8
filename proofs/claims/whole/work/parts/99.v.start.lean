/-! THE START: the two objects and the array, then the loop -/
set_option maxRecDepth 100000 in
theorem sw_in : ∀ w ∈ [Cond.instantiable cn_R 5, .instantiable cn_M 35, .classLink cn_L 8 cn_R, .classLink cn_L 16 cn_M, .methodLink cn_L 15 y_R_init, .methodLink cn_L 18 y_M_init], w ∈ tables_1 ∧ goodWord w = true := by decide +kernel
theorem sw_R : Cond.instantiable cn_R 5 ∈ zT := zt_d (sw_in _ (List.mem_of_getElem? (i := 0) rfl))
theorem sw_M : Cond.instantiable cn_M 35 ∈ zT := zt_d (sw_in _ (List.mem_of_getElem? (i := 1) rfl))
theorem sw_8 : Cond.classLink cn_L 8 cn_R ∈ zT := zt_d (sw_in _ (List.mem_of_getElem? (i := 2) rfl))
theorem sw_16 : Cond.classLink cn_L 16 cn_M ∈ zT := zt_d (sw_in _ (List.mem_of_getElem? (i := 3) rfl))
theorem sw_15 : Cond.methodLink cn_L 15 y_R_init ∈ zT := zt_d (sw_in _ (List.mem_of_getElem? (i := 4) rfl))
theorem sw_18 : Cond.methodLink cn_L 18 y_M_init ∈ zT := zt_d (sw_in _ (List.mem_of_getElem? (i := 5) rfl))
theorem k_start {s : State} {args : Array Value} (hz : ∀ w ∈ zT, w.before args s = true) : ∃ (D : va_G) (cI cL : ClassId), va_K D xcl [(cI, .int), (cL, .long)] s := by
  have h0 : ∀ c : Nat, ∃ d : ClassId × (Nat → Nat), ∀ q : vw_C, xcl[c]? = some q → u_Kn s q.1 q.2.1 q.2.2 d.1 d.2 := by
    have one : ∀ (c : Nat) (K : String) (F : u_T) (N : Nat), xcl[c]? = some (K, F, N) → (∀ w ∈ u_ws K F N, w ∈ zT) → (Cond.instantiable K N ∈ zT) → ∃ d : ClassId × (Nat → Nat), ∀ q : vw_C, xcl[c]? = some q → u_Kn s q.1 q.2.1 q.2.2 d.1 d.2 := by
      intro c K F N e hin hi
      obtain ⟨cC, iS, hu⟩ := u_known hz hin (hz _ hi)
      refine ⟨(cC, iS), fun q hq => ?_⟩
      cases e.symm.trans hq
      exact hu
    intro c
    match c with
    | 0 => exact one 0 cn_R cf_R 5 rfl in_R sw_R
    | 1 => exact one 1 cn_V cf_V 4 rfl in_V kw_in_V
    | 2 => exact one 2 cn_A cf_A 2 rfl in_A kw_in_A
    | 3 => exact one 3 cn_T cf_T 11 rfl in_T kw_in_T
    | 4 => exact one 4 cn_P cf_P 11 rfl in_P kw_in_P
    | 5 => exact one 5 cn_K cf_K 5 rfl in_K kw_in_K
    | 6 => exact one 6 cn_G cf_G 5 rfl in_G kw_in_G
    | 7 => exact one 7 cn_N cf_N 2 rfl in_N kw_in_N
    | 8 => exact one 8 cn_M cf_M 35 rfl in_M sw_M
    | n + 9 => exact ⟨(0, fun _ => 0), fun q hq => by cases hq⟩
  obtain ⟨d, hd⟩ := Classical.axiomOfChoice h0
  obtain ⟨cI, kI, mI, i1, i2, i3⟩ := Cond.arrayClass_spec (hz _ kw_aI)
  obtain ⟨cL, kL, mL, j1, j2, j3⟩ := Cond.arrayClass_spec (hz _ kw_aL)
  refine ⟨(fun c => (d c).1, fun c => (d c).2), cI, cL, fun c q hq => hd c q hq, fun k q hk => ?_⟩
  match k with
  | 0 => cases hk; exact ⟨fun n z => ⟨(fun _ h => by cases h), kI, i2, mI, i3⟩, i1⟩
  | 1 => cases hk; exact ⟨fun n z => ⟨(fun _ h => by cases h), kL, j2, mL, j3⟩, j1⟩
  | n + 2 => cases hk
def hz0 : zH := (fun _ _ => 0, fun _ _ => 0, fun _ _ => 0)
def h_0 : zH := zr (zr (zr (zi (zi hz0 30 2 1) 29 9 3) 0 3 7) 0 4 18) 29 8 18
def ad_0 (q0 : Nat) (u : List Nat) (q8 : Nat) (v : List Nat) (q16 : Nat) (k : Nat) : Nat := if k = 0 then q0 else if k < 39 then u.getD (k - 1) 0 else if k = 39 then q8 else if k < 59 then v.getD (k - 40) 0 else q16
theorem Inv_0 : Inv h_0 := by
  refine ⟨0, fun _ => 0, (0, fun _ => 0, fun _ => 0), fun _ => 0, [], ⟨rfl, by decide, fun i hi => absurd hi (Nat.not_lt_zero i)⟩, ⟨rfl, fun i hi => absurd hi (Nat.not_lt_zero i)⟩, fun i hi => absurd hi (Nat.not_lt_zero i), ⟨Or.inl rfl, Or.inr rfl, by decide⟩, ⟨rfl, trivial⟩, ⟨trivial, fun i hi => absurd hi (Nat.not_lt_zero i), by decide, ⟨by decide, fun i hi => absurd hi (Nat.not_lt_zero i)⟩, fun i hi => absurd hi (Nat.not_lt_zero i)⟩, rfl, fun i hi => absurd hi (Nat.not_lt_zero i), rfl, fun i hi => absurd hi (Nat.not_lt_zero i), fun i hi => absurd hi (Nat.not_lt_zero i), rfl, fun i hi => absurd hi (Nat.not_lt_zero i)⟩
set_option maxRecDepth 100000 in
set_option maxHeartbeats 4000000 in
theorem zw_0 (E : zE) (q0 : Nat) (u : List Nat) (q8 : Nat) (v : List Nat) (q16 : Nat) : (ou_R E q0 u ++ ou_M E q8 v) ++ [(q16, kL E 1)] = zw xX (E.1, E.2.1, ad_0 q0 u q8 v q16, E.2.2.2) h_0 := by
  rfl
set_option maxRecDepth 100000 in
theorem xN_in : ∀ w ∈ xN, w ∈ tables_1 := by decide +kernel
set_option maxRecDepth 100000 in
set_option maxHeartbeats 8000000 in
theorem whole_start {p : Program} {e : Env} {s : State} {m : MethodId} {below : List Frame} {meth : Method} {c : Code} (l : Launch) (hl : l.stackTraces = false) {b L : Nat} {xs : Nat → Int32} (hL : L ≤ 1536) (C0 : lw_At p s m meth c b L xs) : W p l e room_1 s m #[Value.ref b] below meth c s.heap [] 0 0 (lw_Z below #[Value.ref b] s) (entryFrame m ([Value.ref b] : List Value).toArray 8) := by
  obtain ⟨hx, hb, hr, hml, hown, hts, hX, hbl, hlk, hgv⟩ := C0
  have hz : ∀ w ∈ zT, w.before #[Value.ref b] s = true := fun w hw => hts w (List.mem_filter.mp hw).1
  obtain ⟨D, cI, cL, hK⟩ := k_start hz
  obtain ⟨adK, adV, hG0⟩ := g_start hts hgv
  have hN : ∀ w ∈ xN, va_Nw w s := fun w hw => va_Nw.of (zNest_on (xN_ok w hw)) (hts w (List.mem_append_right _ (xN_in w hw)))
  have C : ZC p room_1 s m #[Value.ref b] meth c code 8 zT cn_L (D, (cI, cL), fun _ => 0, adK, adV) xcl xN (xG (D, (cI, cL), fun _ => 0, adK, adV)) (lA s) xX 0 0 s.heap := ⟨⟨hx, hb, hml, hown, hz⟩, hK, hN, hlk, ⟨Nat.zero_le _, Nat.zero_le _⟩, fun q hq => hq, hG0 _ _ _⟩
  have hl8 := lv_entry [Value.ref b] (n := 8) (Nat.le_of_ble_eq_true rfl)
  rw [lg_entry_eq]
  generalize (lg_sl [Value.ref b] ++ List.replicate (8 - (lg_sl [Value.ref b]).length) Slot.unset).toArray = ls at hl8 ⊢
  suffices body : GW p l e room_1 s m #[Value.ref b] below meth c (lw_Z below #[Value.ref b] s) (D, (cI, cL), fun _ => 0, adK, adV) xcl (lA s) s.heap 8 0 0 [] 0 (zlv [Value.ref b] 8) [] by
    exact body s.heap [] ls (fun k q hq => by cases hq) ⟨fun i j p q hp => by (cases hp), fun k q hq => by (cases hq)⟩ va_S.rf (zlv_in hl8)
  refine g_lv (lv2 := [some (.ref b), none, none, none, none, none, none, none]) rfl ?_
  refine g_new C (K := cn_R) (F := cf_R) (n := 5) (ci := 0) (fs := [.null, .null, .null, .null, .null]) ct_R ty_R in_R sw_8 sw_R kc_R_n rfl df_R (Nat.le_of_ble_eq_true rfl) (Nat.le_of_ble_eq_true rfl) d_law_0 (fun q0 => ?_)
  refine g_dup C d_law_3 rfl ?_
  refine g_initP ⟨xN_ok, xG_gr _⟩ zT_good C (i0 := 0) (wr := []) (isR := []) (k_R (xG_gr _) q0) kc_R_i kc_R_n kc_R_c sw_15 rfl (Nat.le_of_ble_eq_true rfl) (Nat.le_of_ble_eq_true rfl) kc_R_p rfl rfl (Nat.le_of_ble_eq_true rfl) d_law_4 rfl rfl rfl rfl (by decide) (Nat.le_of_ble_eq_true rfl) (Nat.le_of_ble_eq_true rfl) (fun u => ?_)
  refine g_astore_n C (i := 1) d_law_7 rfl (by decide) rfl ?_
  refine g_new C (K := cn_M) (F := cf_M) (n := 35) (ci := 8) (fs := [.int 0, .int 0, .null, .null, .null, .null, .int 0, .int 0, .int 0, .int 0, .int 0, .long 0, .null, .null, .null, .null, .null, .null, .null, .null, .null, .null, .int 0, .int 0, .int 0, .null, .null, .null, .int 0, .null, .int 0, .int 0, .long 0, .long 0, .null]) ct_M ty_M in_M sw_16 sw_M kc_M_n rfl df_M (Nat.le_of_ble_eq_true rfl) (Nat.le_of_ble_eq_true rfl) d_law_8 (fun q8 => ?_)
  refine g_dup C d_law_11 rfl ?_
  refine g_initP ⟨xN_ok, xG_gr _⟩ zT_good C (i0 := 39) (wr := ou_R (D, (cI, cL), fun _ => 0, adK, adV) q0 u) (isR := List.range 39) (k_M (xG_gr _) q8) kc_M_i kc_M_n kc_M_c sw_18 rfl (Nat.le_of_ble_eq_true rfl) (Nat.le_of_ble_eq_true rfl) kc_M_p rfl rfl (Nat.le_of_ble_eq_true rfl) d_law_12 rfl rfl rfl (by decide +kernel) (by decide +kernel) (Nat.le_of_ble_eq_true rfl) (Nat.le_of_ble_eq_true rfl) (fun v => ?_)
  refine g_astore_n C (i := 2) d_law_15 rfl (by decide) rfl ?_
  refine g_iconst C (v := 1) d_law_16 (by decide) ?_
  refine g_newL C (n' := 1) kw_aL (by decide) (by decide) (by decide) (Nat.le_of_ble_eq_true rfl) (Nat.le_of_ble_eq_true rfl) d_law_17 (fun q16 => ?_)
  refine g_astore_n C (i := 3) d_law_19 rfl (by decide) rfl ?_
  refine g_ws (zw_0 (D, (cI, cL), fun _ => 0, adK, adV) q0 u q8 v q16) ?_
  have C1 : lC p s m meth c (D, (cI, cL), ad_0 q0 u q8 v q16, adK, adV) (xG (D, (cI, cL), ad_0 q0 u q8 v q16, adK, adV)) b 0 0 := ⟨⟨hx, hb, hml, hown, hz⟩, hK, hN, hlk, ⟨Nat.zero_le _, Nat.zero_le _⟩, fun q hq => hq, hG0 _ _ _⟩
  have C2 := C1.at (kc2 := 60) (ks2 := 7007) (by decide) (by decide)
  have go : lZ p l e s m below meth c (D, (cI, cL), ad_0 q0 u q8 v q16, adK, adV) b 60 7007 h_0 20 [some (.ref b), some (.ref q0), some (.ref q8), some (.ref q16), none, none, none, none] [] := by
    refine z_iconst C2 (v := 0) d_law_20 (by decide) ?_
    refine z_istore C2 (i := 4) d_law_21 (by decide) rfl ?_
    refine z_lv (lv2 := lwv (D, (cI, cL), ad_0 q0 u q8 v q16, adK, adV) b 0) rfl ?_
    exact l_loop hl (xG_O _) (xG_GG _) hr hX hbl hL C1 512 0 h_0 (by decide) (by decide) Inv_0
  intro H locs ls2 hP hD hS hLL
  exact go H locs ls2 hP hD hS hLL
