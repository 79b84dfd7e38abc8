/-! THE GROUND: it stays; it holds at the start -/
theorem xS_gr (E : zE) : zGr (xS E) := by
  refine ⟨fun A B s U locs h hS hW hB => ?_, fun B U g mk a h => ?_⟩
  · obtain ⟨h1, h2, h3, h4, h5, h6, h7⟩ := h
    exact ⟨((h1.moved hW.alike).kept hS.2.1).narrow hB, h2.warm hW, h3.warm hW, h4.warm hW, h5.warm hW, ((h6.moved hW.alike).kept hS.2.1).narrow hB, ((h7.moved hW.alike).kept hS.2.1).narrow hB⟩
  · obtain ⟨h1, h2, h3, h4, h5, h6, h7⟩ := h
    exact ⟨vk_S.moved (u := U) (U := U.calling g mk a) (Vm.Alike.refl U.vm) h1, vk_R.same (u := U) (U := U.calling g mk a) rfl h2, vk_R.same (u := U) (U := U.calling g mk a) rfl h3, vk_R.same (u := U) (U := U.calling g mk a) rfl h4, vk_R.same (u := U) (U := U.calling g mk a) rfl h5, va_Z.moved (u := U) (U := U.calling g mk a) (Vm.Alike.refl U.vm) h6, va_Zq.moved (u := U) (U := U.calling g mk a) (Vm.Alike.refl U.vm) h7⟩
theorem xG_gr (E : zE) : zGr (xG E) := ⟨fun A B s U locs h hS hW hB => ⟨(xS_gr E).1 A B s U locs h.1 hS hW hB, xO_gr.1 A B s U locs h.2 hS hW hB⟩, fun B U g mk a h => ⟨(xS_gr E).2 B U g mk a h.1, xO_gr.2 B U g mk a h.2⟩⟩
theorem xG_GG (E : zE) : xGG E (xG E) := ⟨xG_gr E, fun _ _ h => h.1⟩
theorem xG_O (E : zE) (A : Nat → Prop) (U : State) (h : xG E A U) : xO A U := h.2
def tmS (i : Nat) : Term := [Term.string "RangeReckoner$Tokens" 60, .string "RangeReckoner$Tokens" 66, .string "RangeReckoner$Tokens" 68].getD i (.string "RangeReckoner" 83)
abbrev fl1 : List Cond := flatC (Jvm.Cond.and given_1 narrow_1)
set_option maxRecDepth 100000 in
theorem fs_1 : ∀ i : Nat, i < 4 → Cond.exactly (tmS i) "java/lang/String" ∈ fl1 ∧ Cond.eq (.field (tmS i) "java/lang/String" "coder" "B") (.int 0) ∈ fl1 ∧ Cond.arrayOf (.field (tmS i) "java/lang/String" "value" "[B") .byte ∈ fl1 ∧ Cond.eq (.length (.field (tmS i) "java/lang/String" "value" "[B")) (.int (Int32.ofNat (xSlen.getD i 0))) ∈ fl1 := by decide +kernel
set_option maxRecDepth 100000 in
theorem fs_2 : ∀ i : Nat, i < 4 → ∀ j : Nat, j < xSlen.getD i 0 → Cond.eq (.elem (.field (tmS i) "java/lang/String" "value" "[B") (.int (Int32.ofNat j))) (.int ((xSbyt.getD i []).getD j 0)) ∈ fl1 := by decide +kernel
set_option maxRecDepth 100000 in
theorem fs_3 : ∀ i : Nat, i < 4 → ∀ j : Nat, j < 4 → i ≠ j → Cond.not (Cond.eq (tmS i) (tmS j)) ∈ fl1 ∨ Cond.not (Cond.eq (tmS j) (tmS i)) ∈ fl1 := by decide +kernel
set_option maxRecDepth 100000 in
theorem fs_4 : Cond.eq (.static "java/lang/String" "COMPACT_STRINGS" "Z") (.int 1) ∈ fl1 ∧ Cond.isRef (.static "jdk/internal/util/Preconditions" "SIOOBE_FORMATTER" "Ljava/util/function/BiFunction;") ∈ fl1 ∧ ∀ w ∈ oaRef, w ∈ fl1 := by decide +kernel
set_option maxRecDepth 100000 in
theorem fs_5 : ∀ w ∈ [Cond.stringRef "RangeReckoner$Tokens" 60 "min", .stringRef "RangeReckoner$Tokens" 66 "max", .stringRef "RangeReckoner$Tokens" 68 "abs", .stringRef "RangeReckoner" 83 "there is no such part", .laysStatic "java/lang/String" "COMPACT_STRINGS" "Z", .initialized "java/lang/String", .laysStatic "jdk/internal/util/Preconditions" "SIOOBE_FORMATTER" "Ljava/util/function/BiFunction;", .initialized "jdk/internal/util/Preconditions", .initialized Bundle.tN, .arrayClass .int, .arrayClass .long], w ∈ tables_1 := by decide +kernel
set_option maxRecDepth 100000 in
theorem fs_6 : (∀ w ∈ oaLay, w ∈ tables_1) ∧ ∀ w ∈ oaX, w ∈ tables_1 := by decide +kernel
theorem g_start {s : State} {b : Nat} (hts : ∀ w ∈ lw_tbl, w.before #[Value.ref b] s = true) (hgv : (Jvm.Cond.and given_1 narrow_1).before #[Value.ref b] s = true) : ∃ adK adV : Nat → Nat, ∀ (D : va_G) (ci : ClassId × ClassId) (ad : Nat → Nat), xG (D, ci, ad, adK, adV) (lA s) s := by
  have hf := flat_of_before _ hgv
  have ht : ∀ w ∈ tables_1, w.before #[Value.ref b] s = true := fun w hw => hts w (List.mem_append_right _ hw)
  have hA : ∀ a : Nat, a < s.heap.size → ¬ lA s a := fun a h z => absurd h (Nat.not_lt.mpr z)
  obtain ⟨adK, adV, hv, he⟩ := vk_Sof (args := #[Value.ref b]) (s := s) (N := 4) (tm := tmS) (len := xSlen) (byt := xSbyt) (A := lA s) (by decide) (fun i hi => hf _ (fs_1 i hi).1) (fun i hi => hf _ (fs_1 i hi).2.1) (fun i hi => hf _ (fs_1 i hi).2.2.1) (fun i hi => hf _ (fs_1 i hi).2.2.2) (fun i hi j hj => hf _ (fs_2 i hi j hj)) (fun i j hi hj hij => (fs_3 i hi j hj hij).imp (hf _) (hf _)) hA
  refine ⟨adK, adV, fun D ci ad => ⟨⟨hv, ?_, ?_, ?_, ?_, ?_, ?_⟩, ?_, ⟨?_, ?_⟩, ⟨?_, ?_⟩⟩⟩
  · exact vk_R.of (ht _ (fs_5 _ (List.mem_of_getElem? (i := 0) rfl))) (he 0 (by decide))
  · exact vk_R.of (ht _ (fs_5 _ (List.mem_of_getElem? (i := 1) rfl))) (he 1 (by decide))
  · exact vk_R.of (ht _ (fs_5 _ (List.mem_of_getElem? (i := 2) rfl))) (he 2 (by decide))
  · exact vk_R.of (ht _ (fs_5 _ (List.mem_of_getElem? (i := 3) rfl))) (he 3 (by decide))
  · exact va_Zof (ht _ (fs_5 _ (List.mem_of_getElem? (i := 4) rfl))) (ht _ (fs_5 _ (List.mem_of_getElem? (i := 5) rfl))) (va_eqi (hf _ fs_4.1)) hA
  · exact va_Zqof (ht _ (fs_5 _ (List.mem_of_getElem? (i := 6) rfl))) (ht _ (fs_5 _ (List.mem_of_getElem? (i := 7) rfl))) (hf _ fs_4.2.1) hA
  · exact fun w hw => va_Nw.of (oaG_on (List.mem_filter.mp hw).2) (ht _ (fs_6.2 w hw))
  · exact va_Zqof (ht _ (fs_6.1 _ (List.mem_of_getElem? (i := 0) rfl))) (ht _ (fs_5 _ (List.mem_of_getElem? (i := 8) rfl))) (hf _ (fs_4.2.2 _ (List.mem_of_getElem? (i := 0) rfl))) hA
  · exact zLS.of (ht _ (fs_6.1 _ (List.mem_of_getElem? (i := 0) rfl))) hA
  · exact va_Zqof (ht _ (fs_6.1 _ (List.mem_of_getElem? (i := 1) rfl))) (ht _ (fs_5 _ (List.mem_of_getElem? (i := 8) rfl))) (hf _ (fs_4.2.2 _ (List.mem_of_getElem? (i := 1) rfl))) hA
  · exact zLS.of (ht _ (fs_6.1 _ (List.mem_of_getElem? (i := 1) rfl))) hA
