section
-- ===== PART A: goes FIRST, ahead of the names: the tables' words, and 'selects' of the private methods out of them =====
/-- a private method of a class that the tables say can be made, by its rows of tables_1 -/
def lw_okq (q : MethodName × Nat) : Prop := (q.1.cls ≠ "java/lang/invoke/MethodHandle" ∧ q.1.cls ≠ "java/lang/invoke/VarHandle") ∧ Cond.instantiable q.1.cls q.2 ∈ tables_1 ∧ Cond.privateMethod q.1 ∈ tables_1 ∧ Cond.instanceMethod q.1 ∈ tables_1
theorem lw_p0 : lw_okq (⟨"RangeReckoner$Variables", "add", "(II)I"⟩, 4) := ⟨⟨by decide +kernel, by decide +kernel⟩, List.mem_of_getElem? (i := 28) (by decide +kernel), List.mem_of_getElem? (i := 231) (by decide +kernel), List.mem_of_getElem? (i := 232) (by decide +kernel)⟩
theorem lw_p1 : lw_okq (⟨"RangeReckoner$Variables", "set", "(II)Z"⟩, 4) := ⟨⟨by decide +kernel, by decide +kernel⟩, List.mem_of_getElem? (i := 28) (by decide +kernel), List.mem_of_getElem? (i := 247) (by decide +kernel), List.mem_of_getElem? (i := 248) (by decide +kernel)⟩
theorem lw_p2 : lw_okq (⟨"RangeReckoner$Variables", "has", "(I)Z"⟩, 4) := ⟨⟨by decide +kernel, by decide +kernel⟩, List.mem_of_getElem? (i := 28) (by decide +kernel), List.mem_of_getElem? (i := 251) (by decide +kernel), List.mem_of_getElem? (i := 252) (by decide +kernel)⟩
theorem lw_p3 : lw_okq (⟨"RangeReckoner$Tape", "append", "(II)Z"⟩, 2) := ⟨⟨by decide +kernel, by decide +kernel⟩, List.mem_of_getElem? (i := 49) (by decide +kernel), List.mem_of_getElem? (i := 259) (by decide +kernel), List.mem_of_getElem? (i := 260) (by decide +kernel)⟩
theorem lw_p4 : lw_okq (⟨"RangeReckoner$Tape", "appendWord", "(II)I"⟩, 2) := ⟨⟨by decide +kernel, by decide +kernel⟩, List.mem_of_getElem? (i := 49) (by decide +kernel), List.mem_of_getElem? (i := 263) (by decide +kernel), List.mem_of_getElem? (i := 264) (by decide +kernel)⟩
theorem lw_p5 : lw_okq (⟨"RangeReckoner$Parser", "read", "(LRangeReckoner$Term;)I"⟩, 11) := ⟨⟨by decide +kernel, by decide +kernel⟩, List.mem_of_getElem? (i := 107) (by decide +kernel), List.mem_of_getElem? (i := 271) (by decide +kernel), List.mem_of_getElem? (i := 272) (by decide +kernel)⟩
theorem lw_p6 : lw_okq (⟨"RangeReckoner$Parser", "restart", "(LRangeReckoner$Term;)V"⟩, 11) := ⟨⟨by decide +kernel, by decide +kernel⟩, List.mem_of_getElem? (i := 107) (by decide +kernel), List.mem_of_getElem? (i := 275) (by decide +kernel), List.mem_of_getElem? (i := 276) (by decide +kernel)⟩
theorem lw_p7 : lw_okq (⟨"RangeReckoner$Term", "clear", "()V"⟩, 11) := ⟨⟨by decide +kernel, by decide +kernel⟩, List.mem_of_getElem? (i := 64) (by decide +kernel), List.mem_of_getElem? (i := 279) (by decide +kernel), List.mem_of_getElem? (i := 280) (by decide +kernel)⟩
theorem lw_p8 : lw_okq (⟨"RangeReckoner$Tokens", "restart", "()V"⟩, 5) := ⟨⟨by decide +kernel, by decide +kernel⟩, List.mem_of_getElem? (i := 152) (by decide +kernel), List.mem_of_getElem? (i := 283) (by decide +kernel), List.mem_of_getElem? (i := 284) (by decide +kernel)⟩
theorem lw_p9 : lw_okq (⟨"RangeReckoner$Pending", "clear", "()V"⟩, 5) := ⟨⟨by decide +kernel, by decide +kernel⟩, List.mem_of_getElem? (i := 113) (by decide +kernel), List.mem_of_getElem? (i := 287) (by decide +kernel), List.mem_of_getElem? (i := 288) (by decide +kernel)⟩
theorem lw_p10 : lw_okq (⟨"RangeReckoner$Tokens", "advance", "()V"⟩, 5) := ⟨⟨by decide +kernel, by decide +kernel⟩, List.mem_of_getElem? (i := 152) (by decide +kernel), List.mem_of_getElem? (i := 291) (by decide +kernel), List.mem_of_getElem? (i := 292) (by decide +kernel)⟩
theorem lw_p11 : lw_okq (⟨"RangeReckoner$Tokens", "skipSpaces", "()V"⟩, 5) := ⟨⟨by decide +kernel, by decide +kernel⟩, List.mem_of_getElem? (i := 152) (by decide +kernel), List.mem_of_getElem? (i := 295) (by decide +kernel), List.mem_of_getElem? (i := 296) (by decide +kernel)⟩
theorem lw_p12 : lw_okq (⟨"RangeReckoner$Tape", "signAt", "(I)I"⟩, 2) := ⟨⟨by decide +kernel, by decide +kernel⟩, List.mem_of_getElem? (i := 49) (by decide +kernel), List.mem_of_getElem? (i := 299) (by decide +kernel), List.mem_of_getElem? (i := 300) (by decide +kernel)⟩
theorem lw_p13 : lw_okq (⟨"RangeReckoner$Tokens", "readDigits", "()V"⟩, 5) := ⟨⟨by decide +kernel, by decide +kernel⟩, List.mem_of_getElem? (i := 152) (by decide +kernel), List.mem_of_getElem? (i := 309) (by decide +kernel), List.mem_of_getElem? (i := 310) (by decide +kernel)⟩
theorem lw_p14 : lw_okq (⟨"RangeReckoner$Tokens", "readVariable", "()V"⟩, 5) := ⟨⟨by decide +kernel, by decide +kernel⟩, List.mem_of_getElem? (i := 152) (by decide +kernel), List.mem_of_getElem? (i := 315) (by decide +kernel), List.mem_of_getElem? (i := 316) (by decide +kernel)⟩
theorem lw_p15 : lw_okq (⟨"RangeReckoner$Tokens", "readWord", "()V"⟩, 5) := ⟨⟨by decide +kernel, by decide +kernel⟩, List.mem_of_getElem? (i := 152) (by decide +kernel), List.mem_of_getElem? (i := 319) (by decide +kernel), List.mem_of_getElem? (i := 320) (by decide +kernel)⟩
def lw_privs_1 : List (MethodName × Nat) := [(⟨"RangeReckoner$Variables", "add", "(II)I"⟩, 4), (⟨"RangeReckoner$Variables", "set", "(II)Z"⟩, 4), (⟨"RangeReckoner$Variables", "has", "(I)Z"⟩, 4), (⟨"RangeReckoner$Tape", "append", "(II)Z"⟩, 2), (⟨"RangeReckoner$Tape", "appendWord", "(II)I"⟩, 2), (⟨"RangeReckoner$Parser", "read", "(LRangeReckoner$Term;)I"⟩, 11), (⟨"RangeReckoner$Parser", "restart", "(LRangeReckoner$Term;)V"⟩, 11), (⟨"RangeReckoner$Term", "clear", "()V"⟩, 11), (⟨"RangeReckoner$Tokens", "restart", "()V"⟩, 5), (⟨"RangeReckoner$Pending", "clear", "()V"⟩, 5), (⟨"RangeReckoner$Tokens", "advance", "()V"⟩, 5), (⟨"RangeReckoner$Tokens", "skipSpaces", "()V"⟩, 5), (⟨"RangeReckoner$Tape", "signAt", "(I)I"⟩, 2), (⟨"RangeReckoner$Tokens", "readDigits", "()V"⟩, 5), (⟨"RangeReckoner$Tokens", "readVariable", "()V"⟩, 5), (⟨"RangeReckoner$Tokens", "readWord", "()V"⟩, 5)]
theorem lw_r1 : ∀ q ∈ lw_privs_1, lw_okq q := List.forall_mem_cons.mpr ⟨lw_p0, List.forall_mem_cons.mpr ⟨lw_p1, List.forall_mem_cons.mpr ⟨lw_p2, List.forall_mem_cons.mpr ⟨lw_p3, List.forall_mem_cons.mpr ⟨lw_p4, List.forall_mem_cons.mpr ⟨lw_p5, List.forall_mem_cons.mpr ⟨lw_p6, List.forall_mem_cons.mpr ⟨lw_p7, List.forall_mem_cons.mpr ⟨lw_p8, List.forall_mem_cons.mpr ⟨lw_p9, List.forall_mem_cons.mpr ⟨lw_p10, List.forall_mem_cons.mpr ⟨lw_p11, List.forall_mem_cons.mpr ⟨lw_p12, List.forall_mem_cons.mpr ⟨lw_p13, List.forall_mem_cons.mpr ⟨lw_p14, List.forall_mem_cons.mpr ⟨lw_p15, fun _ h => absurd h List.not_mem_nil⟩⟩⟩⟩⟩⟩⟩⟩⟩⟩⟩⟩⟩⟩⟩⟩
theorem lw_p16 : lw_okq (⟨"RangeReckoner$Tape", "spells", "(ILjava/lang/String;)Z"⟩, 2) := ⟨⟨by decide +kernel, by decide +kernel⟩, List.mem_of_getElem? (i := 49) (by decide +kernel), List.mem_of_getElem? (i := 324) (by decide +kernel), List.mem_of_getElem? (i := 325) (by decide +kernel)⟩
theorem lw_p17 : lw_okq (⟨"RangeReckoner$Tokens", "readMark", "()V"⟩, 5) := ⟨⟨by decide +kernel, by decide +kernel⟩, List.mem_of_getElem? (i := 152) (by decide +kernel), List.mem_of_getElem? (i := 379) (by decide +kernel), List.mem_of_getElem? (i := 380) (by decide +kernel)⟩
theorem lw_p18 : lw_okq (⟨"RangeReckoner$Parser", "readOperand", "()V"⟩, 11) := ⟨⟨by decide +kernel, by decide +kernel⟩, List.mem_of_getElem? (i := 107) (by decide +kernel), List.mem_of_getElem? (i := 389) (by decide +kernel), List.mem_of_getElem? (i := 390) (by decide +kernel)⟩
theorem lw_p19 : lw_okq (⟨"RangeReckoner$Range", "put", "(JJ)V"⟩, 2) := ⟨⟨by decide +kernel, by decide +kernel⟩, List.mem_of_getElem? (i := 137) (by decide +kernel), List.mem_of_getElem? (i := 393) (by decide +kernel), List.mem_of_getElem? (i := 394) (by decide +kernel)⟩
theorem lw_p20 : lw_okq (⟨"RangeReckoner$Parser", "addPart", "(IIII)V"⟩, 11) := ⟨⟨by decide +kernel, by decide +kernel⟩, List.mem_of_getElem? (i := 107) (by decide +kernel), List.mem_of_getElem? (i := 397) (by decide +kernel), List.mem_of_getElem? (i := 398) (by decide +kernel)⟩
theorem lw_p21 : lw_okq (⟨"RangeReckoner$Term", "isFull", "()Z"⟩, 11) := ⟨⟨by decide +kernel, by decide +kernel⟩, List.mem_of_getElem? (i := 64) (by decide +kernel), List.mem_of_getElem? (i := 401) (by decide +kernel), List.mem_of_getElem? (i := 402) (by decide +kernel)⟩
theorem lw_p22 : lw_okq (⟨"RangeReckoner$Parser", "blame", "(II)V"⟩, 11) := ⟨⟨by decide +kernel, by decide +kernel⟩, List.mem_of_getElem? (i := 107) (by decide +kernel), List.mem_of_getElem? (i := 405) (by decide +kernel), List.mem_of_getElem? (i := 406) (by decide +kernel)⟩
theorem lw_p23 : lw_okq (⟨"RangeReckoner$Term", "add", "(IIII)V"⟩, 11) := ⟨⟨by decide +kernel, by decide +kernel⟩, List.mem_of_getElem? (i := 64) (by decide +kernel), List.mem_of_getElem? (i := 409) (by decide +kernel), List.mem_of_getElem? (i := 410) (by decide +kernel)⟩
theorem lw_p24 : lw_okq (⟨"RangeReckoner$Term", "tellRange", "(JJ)V"⟩, 11) := ⟨⟨by decide +kernel, by decide +kernel⟩, List.mem_of_getElem? (i := 64) (by decide +kernel), List.mem_of_getElem? (i := 414) (by decide +kernel), List.mem_of_getElem? (i := 415) (by decide +kernel)⟩
theorem lw_p25 : lw_okq (⟨"RangeReckoner$Term", "has", "(I)Z"⟩, 11) := ⟨⟨by decide +kernel, by decide +kernel⟩, List.mem_of_getElem? (i := 64) (by decide +kernel), List.mem_of_getElem? (i := 418) (by decide +kernel), List.mem_of_getElem? (i := 419) (by decide +kernel)⟩
theorem lw_p26 : lw_okq (⟨"RangeReckoner$Parser", "readVariable", "()V"⟩, 11) := ⟨⟨by decide +kernel, by decide +kernel⟩, List.mem_of_getElem? (i := 107) (by decide +kernel), List.mem_of_getElem? (i := 422) (by decide +kernel), List.mem_of_getElem? (i := 423) (by decide +kernel)⟩
theorem lw_p27 : lw_okq (⟨"RangeReckoner$Variables", "lowOf", "(I)I"⟩, 4) := ⟨⟨by decide +kernel, by decide +kernel⟩, List.mem_of_getElem? (i := 28) (by decide +kernel), List.mem_of_getElem? (i := 427) (by decide +kernel), List.mem_of_getElem? (i := 428) (by decide +kernel)⟩
theorem lw_p28 : lw_okq (⟨"RangeReckoner$Variables", "highOf", "(I)I"⟩, 4) := ⟨⟨by decide +kernel, by decide +kernel⟩, List.mem_of_getElem? (i := 28) (by decide +kernel), List.mem_of_getElem? (i := 432) (by decide +kernel), List.mem_of_getElem? (i := 433) (by decide +kernel)⟩
theorem lw_p29 : lw_okq (⟨"RangeReckoner$Parser", "nest", "(II)V"⟩, 11) := ⟨⟨by decide +kernel, by decide +kernel⟩, List.mem_of_getElem? (i := 107) (by decide +kernel), List.mem_of_getElem? (i := 436) (by decide +kernel), List.mem_of_getElem? (i := 437) (by decide +kernel)⟩
theorem lw_p30 : lw_okq (⟨"RangeReckoner$Pending", "push", "(II)V"⟩, 5) := ⟨⟨by decide +kernel, by decide +kernel⟩, List.mem_of_getElem? (i := 113) (by decide +kernel), List.mem_of_getElem? (i := 440) (by decide +kernel), List.mem_of_getElem? (i := 441) (by decide +kernel)⟩
theorem lw_p31 : lw_okq (⟨"RangeReckoner$Parser", "readBracket", "()V"⟩, 11) := ⟨⟨by decide +kernel, by decide +kernel⟩, List.mem_of_getElem? (i := 107) (by decide +kernel), List.mem_of_getElem? (i := 447) (by decide +kernel), List.mem_of_getElem? (i := 448) (by decide +kernel)⟩
def lw_privs_2 : List (MethodName × Nat) := [(⟨"RangeReckoner$Tape", "spells", "(ILjava/lang/String;)Z"⟩, 2), (⟨"RangeReckoner$Tokens", "readMark", "()V"⟩, 5), (⟨"RangeReckoner$Parser", "readOperand", "()V"⟩, 11), (⟨"RangeReckoner$Range", "put", "(JJ)V"⟩, 2), (⟨"RangeReckoner$Parser", "addPart", "(IIII)V"⟩, 11), (⟨"RangeReckoner$Term", "isFull", "()Z"⟩, 11), (⟨"RangeReckoner$Parser", "blame", "(II)V"⟩, 11), (⟨"RangeReckoner$Term", "add", "(IIII)V"⟩, 11), (⟨"RangeReckoner$Term", "tellRange", "(JJ)V"⟩, 11), (⟨"RangeReckoner$Term", "has", "(I)Z"⟩, 11), (⟨"RangeReckoner$Parser", "readVariable", "()V"⟩, 11), (⟨"RangeReckoner$Variables", "lowOf", "(I)I"⟩, 4), (⟨"RangeReckoner$Variables", "highOf", "(I)I"⟩, 4), (⟨"RangeReckoner$Parser", "nest", "(II)V"⟩, 11), (⟨"RangeReckoner$Pending", "push", "(II)V"⟩, 5), (⟨"RangeReckoner$Parser", "readBracket", "()V"⟩, 11)]
theorem lw_r2 : ∀ q ∈ lw_privs_2, lw_okq q := List.forall_mem_cons.mpr ⟨lw_p16, List.forall_mem_cons.mpr ⟨lw_p17, List.forall_mem_cons.mpr ⟨lw_p18, List.forall_mem_cons.mpr ⟨lw_p19, List.forall_mem_cons.mpr ⟨lw_p20, List.forall_mem_cons.mpr ⟨lw_p21, List.forall_mem_cons.mpr ⟨lw_p22, List.forall_mem_cons.mpr ⟨lw_p23, List.forall_mem_cons.mpr ⟨lw_p24, List.forall_mem_cons.mpr ⟨lw_p25, List.forall_mem_cons.mpr ⟨lw_p26, List.forall_mem_cons.mpr ⟨lw_p27, List.forall_mem_cons.mpr ⟨lw_p28, List.forall_mem_cons.mpr ⟨lw_p29, List.forall_mem_cons.mpr ⟨lw_p30, List.forall_mem_cons.mpr ⟨lw_p31, fun _ h => absurd h List.not_mem_nil⟩⟩⟩⟩⟩⟩⟩⟩⟩⟩⟩⟩⟩⟩⟩⟩
theorem lw_p32 : lw_okq (⟨"RangeReckoner$Parser", "goesOn", "()Z"⟩, 11) := ⟨⟨by decide +kernel, by decide +kernel⟩, List.mem_of_getElem? (i := 107) (by decide +kernel), List.mem_of_getElem? (i := 451) (by decide +kernel), List.mem_of_getElem? (i := 452) (by decide +kernel)⟩
theorem lw_p33 : lw_okq (⟨"RangeReckoner$Parser", "settle", "(I)V"⟩, 11) := ⟨⟨by decide +kernel, by decide +kernel⟩, List.mem_of_getElem? (i := 107) (by decide +kernel), List.mem_of_getElem? (i := 461) (by decide +kernel), List.mem_of_getElem? (i := 462) (by decide +kernel)⟩
theorem lw_p34 : lw_okq (⟨"RangeReckoner$Pending", "topStrength", "()I"⟩, 5) := ⟨⟨by decide +kernel, by decide +kernel⟩, List.mem_of_getElem? (i := 113) (by decide +kernel), List.mem_of_getElem? (i := 465) (by decide +kernel), List.mem_of_getElem? (i := 466) (by decide +kernel)⟩
theorem lw_p35 : lw_okq (⟨"RangeReckoner$Pending", "topCode", "()I"⟩, 5) := ⟨⟨by decide +kernel, by decide +kernel⟩, List.mem_of_getElem? (i := 113) (by decide +kernel), List.mem_of_getElem? (i := 469) (by decide +kernel), List.mem_of_getElem? (i := 470) (by decide +kernel)⟩
theorem lw_p36 : lw_okq (⟨"RangeReckoner$Pending", "topAwaited", "()I"⟩, 5) := ⟨⟨by decide +kernel, by decide +kernel⟩, List.mem_of_getElem? (i := 113) (by decide +kernel), List.mem_of_getElem? (i := 474) (by decide +kernel), List.mem_of_getElem? (i := 475) (by decide +kernel)⟩
theorem lw_p37 : lw_okq (⟨"RangeReckoner$Parser", "combine", "()V"⟩, 11) := ⟨⟨by decide +kernel, by decide +kernel⟩, List.mem_of_getElem? (i := 107) (by decide +kernel), List.mem_of_getElem? (i := 479) (by decide +kernel), List.mem_of_getElem? (i := 480) (by decide +kernel)⟩
theorem lw_p38 : lw_okq (⟨"RangeReckoner$Pending", "topPlace", "()I"⟩, 5) := ⟨⟨by decide +kernel, by decide +kernel⟩, List.mem_of_getElem? (i := 113) (by decide +kernel), List.mem_of_getElem? (i := 484) (by decide +kernel), List.mem_of_getElem? (i := 485) (by decide +kernel)⟩
theorem lw_p39 : lw_okq (⟨"RangeReckoner$Pending", "pop", "()V"⟩, 5) := ⟨⟨by decide +kernel, by decide +kernel⟩, List.mem_of_getElem? (i := 113) (by decide +kernel), List.mem_of_getElem? (i := 488) (by decide +kernel), List.mem_of_getElem? (i := 489) (by decide +kernel)⟩
theorem lw_p40 : lw_okq (⟨"RangeReckoner$Parser", "popLoose", "()I"⟩, 11) := ⟨⟨by decide +kernel, by decide +kernel⟩, List.mem_of_getElem? (i := 107) (by decide +kernel), List.mem_of_getElem? (i := 492) (by decide +kernel), List.mem_of_getElem? (i := 493) (by decide +kernel)⟩
theorem lw_p41 : lw_okq (⟨"RangeReckoner$Term", "lowOf", "(I)I"⟩, 11) := ⟨⟨by decide +kernel, by decide +kernel⟩, List.mem_of_getElem? (i := 64) (by decide +kernel), List.mem_of_getElem? (i := 500) (by decide +kernel), List.mem_of_getElem? (i := 501) (by decide +kernel)⟩
theorem lw_p42 : lw_okq (⟨"RangeReckoner$Term", "highOf", "(I)I"⟩, 11) := ⟨⟨by decide +kernel, by decide +kernel⟩, List.mem_of_getElem? (i := 64) (by decide +kernel), List.mem_of_getElem? (i := 505) (by decide +kernel), List.mem_of_getElem? (i := 506) (by decide +kernel)⟩
theorem lw_p43 : lw_okq (⟨"RangeReckoner$Parser", "kindsFit", "(IIII)Z"⟩, 11) := ⟨⟨by decide +kernel, by decide +kernel⟩, List.mem_of_getElem? (i := 107) (by decide +kernel), List.mem_of_getElem? (i := 509) (by decide +kernel), List.mem_of_getElem? (i := 510) (by decide +kernel)⟩
theorem lw_p44 : lw_okq (⟨"RangeReckoner$Term", "kindOf", "(I)I"⟩, 11) := ⟨⟨by decide +kernel, by decide +kernel⟩, List.mem_of_getElem? (i := 64) (by decide +kernel), List.mem_of_getElem? (i := 513) (by decide +kernel), List.mem_of_getElem? (i := 514) (by decide +kernel)⟩
theorem lw_p45 : lw_okq (⟨"RangeReckoner$Range", "hasZero", "()Z"⟩, 2) := ⟨⟨by decide +kernel, by decide +kernel⟩, List.mem_of_getElem? (i := 137) (by decide +kernel), List.mem_of_getElem? (i := 520) (by decide +kernel), List.mem_of_getElem? (i := 521) (by decide +kernel)⟩
theorem lw_p46 : lw_okq (⟨"RangeReckoner$Range", "reckon", "(ILRangeReckoner$Range;LRangeReckoner$Range;)V"⟩, 2) := ⟨⟨by decide +kernel, by decide +kernel⟩, List.mem_of_getElem? (i := 137) (by decide +kernel), List.mem_of_getElem? (i := 524) (by decide +kernel), List.mem_of_getElem? (i := 525) (by decide +kernel)⟩
theorem lw_p47 : lw_okq (⟨"RangeReckoner$Range", "cover", "(JJJJ)V"⟩, 2) := ⟨⟨by decide +kernel, by decide +kernel⟩, List.mem_of_getElem? (i := 137) (by decide +kernel), List.mem_of_getElem? (i := 529) (by decide +kernel), List.mem_of_getElem? (i := 530) (by decide +kernel)⟩
def lw_privs_3 : List (MethodName × Nat) := [(⟨"RangeReckoner$Parser", "goesOn", "()Z"⟩, 11), (⟨"RangeReckoner$Parser", "settle", "(I)V"⟩, 11), (⟨"RangeReckoner$Pending", "topStrength", "()I"⟩, 5), (⟨"RangeReckoner$Pending", "topCode", "()I"⟩, 5), (⟨"RangeReckoner$Pending", "topAwaited", "()I"⟩, 5), (⟨"RangeReckoner$Parser", "combine", "()V"⟩, 11), (⟨"RangeReckoner$Pending", "topPlace", "()I"⟩, 5), (⟨"RangeReckoner$Pending", "pop", "()V"⟩, 5), (⟨"RangeReckoner$Parser", "popLoose", "()I"⟩, 11), (⟨"RangeReckoner$Term", "lowOf", "(I)I"⟩, 11), (⟨"RangeReckoner$Term", "highOf", "(I)I"⟩, 11), (⟨"RangeReckoner$Parser", "kindsFit", "(IIII)Z"⟩, 11), (⟨"RangeReckoner$Term", "kindOf", "(I)I"⟩, 11), (⟨"RangeReckoner$Range", "hasZero", "()Z"⟩, 2), (⟨"RangeReckoner$Range", "reckon", "(ILRangeReckoner$Range;LRangeReckoner$Range;)V"⟩, 2), (⟨"RangeReckoner$Range", "cover", "(JJJJ)V"⟩, 2)]
theorem lw_r3 : ∀ q ∈ lw_privs_3, lw_okq q := List.forall_mem_cons.mpr ⟨lw_p32, List.forall_mem_cons.mpr ⟨lw_p33, List.forall_mem_cons.mpr ⟨lw_p34, List.forall_mem_cons.mpr ⟨lw_p35, List.forall_mem_cons.mpr ⟨lw_p36, List.forall_mem_cons.mpr ⟨lw_p37, List.forall_mem_cons.mpr ⟨lw_p38, List.forall_mem_cons.mpr ⟨lw_p39, List.forall_mem_cons.mpr ⟨lw_p40, List.forall_mem_cons.mpr ⟨lw_p41, List.forall_mem_cons.mpr ⟨lw_p42, List.forall_mem_cons.mpr ⟨lw_p43, List.forall_mem_cons.mpr ⟨lw_p44, List.forall_mem_cons.mpr ⟨lw_p45, List.forall_mem_cons.mpr ⟨lw_p46, List.forall_mem_cons.mpr ⟨lw_p47, fun _ h => absurd h List.not_mem_nil⟩⟩⟩⟩⟩⟩⟩⟩⟩⟩⟩⟩⟩⟩⟩⟩
theorem lw_p48 : lw_okq (⟨"RangeReckoner$Range", "reckonRest", "(LRangeReckoner$Range;LRangeReckoner$Range;)V"⟩, 2) := ⟨⟨by decide +kernel, by decide +kernel⟩, List.mem_of_getElem? (i := 137) (by decide +kernel), List.mem_of_getElem? (i := 539) (by decide +kernel), List.mem_of_getElem? (i := 540) (by decide +kernel)⟩
theorem lw_p49 : lw_okq (⟨"RangeReckoner$Range", "reckonSize", "(LRangeReckoner$Range;)V"⟩, 2) := ⟨⟨by decide +kernel, by decide +kernel⟩, List.mem_of_getElem? (i := 137) (by decide +kernel), List.mem_of_getElem? (i := 546) (by decide +kernel), List.mem_of_getElem? (i := 547) (by decide +kernel)⟩
theorem lw_p50 : lw_okq (⟨"RangeReckoner$Range", "isBeyond", "()Z"⟩, 2) := ⟨⟨by decide +kernel, by decide +kernel⟩, List.mem_of_getElem? (i := 137) (by decide +kernel), List.mem_of_getElem? (i := 551) (by decide +kernel), List.mem_of_getElem? (i := 552) (by decide +kernel)⟩
theorem lw_p51 : lw_okq (⟨"RangeReckoner$Parser", "kindGiven", "(II)I"⟩, 11) := ⟨⟨by decide +kernel, by decide +kernel⟩, List.mem_of_getElem? (i := 107) (by decide +kernel), List.mem_of_getElem? (i := 557) (by decide +kernel), List.mem_of_getElem? (i := 558) (by decide +kernel)⟩
theorem lw_p52 : lw_okq (⟨"RangeReckoner$Term", "tellTaken", "(II)V"⟩, 11) := ⟨⟨by decide +kernel, by decide +kernel⟩, List.mem_of_getElem? (i := 64) (by decide +kernel), List.mem_of_getElem? (i := 561) (by decide +kernel), List.mem_of_getElem? (i := 562) (by decide +kernel)⟩
theorem lw_p53 : lw_okq (⟨"RangeReckoner$Term", "depthOf", "(I)I"⟩, 11) := ⟨⟨by decide +kernel, by decide +kernel⟩, List.mem_of_getElem? (i := 64) (by decide +kernel), List.mem_of_getElem? (i := 565) (by decide +kernel), List.mem_of_getElem? (i := 566) (by decide +kernel)⟩
theorem lw_p54 : lw_okq (⟨"RangeReckoner$Parser", "endTerm", "()V"⟩, 11) := ⟨⟨by decide +kernel, by decide +kernel⟩, List.mem_of_getElem? (i := 107) (by decide +kernel), List.mem_of_getElem? (i := 570) (by decide +kernel), List.mem_of_getElem? (i := 571) (by decide +kernel)⟩
theorem lw_p55 : lw_okq (⟨"RangeReckoner$Parser", "readBehindTerm", "(IZ)V"⟩, 11) := ⟨⟨by decide +kernel, by decide +kernel⟩, List.mem_of_getElem? (i := 107) (by decide +kernel), List.mem_of_getElem? (i := 578) (by decide +kernel), List.mem_of_getElem? (i := 579) (by decide +kernel)⟩
theorem lw_p56 : lw_okq (⟨"RangeReckoner$Pending", "cameNextTerm", "()V"⟩, 5) := ⟨⟨by decide +kernel, by decide +kernel⟩, List.mem_of_getElem? (i := 113) (by decide +kernel), List.mem_of_getElem? (i := 585) (by decide +kernel), List.mem_of_getElem? (i := 586) (by decide +kernel)⟩
theorem lw_p57 : lw_okq (⟨"RangeReckoner$Tape", "clear", "()V"⟩, 2) := ⟨⟨by decide +kernel, by decide +kernel⟩, List.mem_of_getElem? (i := 49) (by decide +kernel), List.mem_of_getElem? (i := 589) (by decide +kernel), List.mem_of_getElem? (i := 590) (by decide +kernel)⟩
theorem lw_p58 : lw_okq (⟨"RangeReckoner$Term", "placeOf", "(I)I"⟩, 11) := ⟨⟨by decide +kernel, by decide +kernel⟩, List.mem_of_getElem? (i := 64) (by decide +kernel), List.mem_of_getElem? (i := 599) (by decide +kernel), List.mem_of_getElem? (i := 600) (by decide +kernel)⟩
theorem lw_p59 : lw_okq (⟨"java/lang/Throwable", "fillInStackTrace", "(I)Ljava/lang/Throwable;"⟩, 6) := ⟨⟨by decide +kernel, by decide +kernel⟩, List.mem_of_getElem? (i := 660) (by decide +kernel), List.mem_of_getElem? (i := 658) (by decide +kernel), List.mem_of_getElem? (i := 659) (by decide +kernel)⟩
theorem lw_p60 : lw_okq (⟨"RangeReckoner$Term", "worthOf", "(ILRangeReckoner$Variables;)J"⟩, 11) := ⟨⟨by decide +kernel, by decide +kernel⟩, List.mem_of_getElem? (i := 64) (by decide +kernel), List.mem_of_getElem? (i := 689) (by decide +kernel), List.mem_of_getElem? (i := 690) (by decide +kernel)⟩
theorem lw_p61 : lw_okq (⟨"RangeReckoner$Term", "work", "(ILRangeReckoner$Variables;)J"⟩, 11) := ⟨⟨by decide +kernel, by decide +kernel⟩, List.mem_of_getElem? (i := 64) (by decide +kernel), List.mem_of_getElem? (i := 693) (by decide +kernel), List.mem_of_getElem? (i := 694) (by decide +kernel)⟩
theorem lw_p62 : lw_okq (⟨"RangeReckoner$Term", "workedOut", "(I)J"⟩, 11) := ⟨⟨by decide +kernel, by decide +kernel⟩, List.mem_of_getElem? (i := 64) (by decide +kernel), List.mem_of_getElem? (i := 697) (by decide +kernel), List.mem_of_getElem? (i := 698) (by decide +kernel)⟩
theorem lw_p63 : lw_okq (⟨"RangeReckoner$Variables", "worthOf", "(I)I"⟩, 4) := ⟨⟨by decide +kernel, by decide +kernel⟩, List.mem_of_getElem? (i := 28) (by decide +kernel), List.mem_of_getElem? (i := 702) (by decide +kernel), List.mem_of_getElem? (i := 703) (by decide +kernel)⟩
def lw_privs_4 : List (MethodName × Nat) := [(⟨"RangeReckoner$Range", "reckonRest", "(LRangeReckoner$Range;LRangeReckoner$Range;)V"⟩, 2), (⟨"RangeReckoner$Range", "reckonSize", "(LRangeReckoner$Range;)V"⟩, 2), (⟨"RangeReckoner$Range", "isBeyond", "()Z"⟩, 2), (⟨"RangeReckoner$Parser", "kindGiven", "(II)I"⟩, 11), (⟨"RangeReckoner$Term", "tellTaken", "(II)V"⟩, 11), (⟨"RangeReckoner$Term", "depthOf", "(I)I"⟩, 11), (⟨"RangeReckoner$Parser", "endTerm", "()V"⟩, 11), (⟨"RangeReckoner$Parser", "readBehindTerm", "(IZ)V"⟩, 11), (⟨"RangeReckoner$Pending", "cameNextTerm", "()V"⟩, 5), (⟨"RangeReckoner$Tape", "clear", "()V"⟩, 2), (⟨"RangeReckoner$Term", "placeOf", "(I)I"⟩, 11), (⟨"java/lang/Throwable", "fillInStackTrace", "(I)Ljava/lang/Throwable;"⟩, 6), (⟨"RangeReckoner$Term", "worthOf", "(ILRangeReckoner$Variables;)J"⟩, 11), (⟨"RangeReckoner$Term", "work", "(ILRangeReckoner$Variables;)J"⟩, 11), (⟨"RangeReckoner$Term", "workedOut", "(I)J"⟩, 11), (⟨"RangeReckoner$Variables", "worthOf", "(I)I"⟩, 4)]
theorem lw_r4 : ∀ q ∈ lw_privs_4, lw_okq q := List.forall_mem_cons.mpr ⟨lw_p48, List.forall_mem_cons.mpr ⟨lw_p49, List.forall_mem_cons.mpr ⟨lw_p50, List.forall_mem_cons.mpr ⟨lw_p51, List.forall_mem_cons.mpr ⟨lw_p52, List.forall_mem_cons.mpr ⟨lw_p53, List.forall_mem_cons.mpr ⟨lw_p54, List.forall_mem_cons.mpr ⟨lw_p55, List.forall_mem_cons.mpr ⟨lw_p56, List.forall_mem_cons.mpr ⟨lw_p57, List.forall_mem_cons.mpr ⟨lw_p58, List.forall_mem_cons.mpr ⟨lw_p59, List.forall_mem_cons.mpr ⟨lw_p60, List.forall_mem_cons.mpr ⟨lw_p61, List.forall_mem_cons.mpr ⟨lw_p62, List.forall_mem_cons.mpr ⟨lw_p63, fun _ h => absurd h List.not_mem_nil⟩⟩⟩⟩⟩⟩⟩⟩⟩⟩⟩⟩⟩⟩⟩⟩
theorem lw_p64 : lw_okq (⟨"RangeReckonerModel", "next", "()V"⟩, 35) := ⟨⟨by decide +kernel, by decide +kernel⟩, List.mem_of_getElem? (i := 716) (by decide +kernel), List.mem_of_getElem? (i := 853) (by decide +kernel), List.mem_of_getElem? (i := 854) (by decide +kernel)⟩
theorem lw_p65 : lw_okq (⟨"RangeReckonerModel", "at", "(I)I"⟩, 35) := ⟨⟨by decide +kernel, by decide +kernel⟩, List.mem_of_getElem? (i := 716) (by decide +kernel), List.mem_of_getElem? (i := 857) (by decide +kernel), List.mem_of_getElem? (i := 858) (by decide +kernel)⟩
theorem lw_p66 : lw_okq (⟨"RangeReckonerModel", "isDigit", "(I)Z"⟩, 35) := ⟨⟨by decide +kernel, by decide +kernel⟩, List.mem_of_getElem? (i := 716) (by decide +kernel), List.mem_of_getElem? (i := 861) (by decide +kernel), List.mem_of_getElem? (i := 862) (by decide +kernel)⟩
theorem lw_p67 : lw_okq (⟨"RangeReckonerModel", "stands", "(III)Z"⟩, 35) := ⟨⟨by decide +kernel, by decide +kernel⟩, List.mem_of_getElem? (i := 716) (by decide +kernel), List.mem_of_getElem? (i := 867) (by decide +kernel), List.mem_of_getElem? (i := 868) (by decide +kernel)⟩
theorem lw_p68 : lw_okq (⟨"RangeReckonerModel", "begins", "()Z"⟩, 35) := ⟨⟨by decide +kernel, by decide +kernel⟩, List.mem_of_getElem? (i := 716) (by decide +kernel), List.mem_of_getElem? (i := 871) (by decide +kernel), List.mem_of_getElem? (i := 872) (by decide +kernel)⟩
theorem lw_p69 : lw_okq (⟨"RangeReckonerModel", "part", "(IIIJJ)I"⟩, 35) := ⟨⟨by decide +kernel, by decide +kernel⟩, List.mem_of_getElem? (i := 716) (by decide +kernel), List.mem_of_getElem? (i := 875) (by decide +kernel), List.mem_of_getElem? (i := 876) (by decide +kernel)⟩
theorem lw_p70 : lw_okq (⟨"RangeReckonerModel", "bad", "(II)V"⟩, 35) := ⟨⟨by decide +kernel, by decide +kernel⟩, List.mem_of_getElem? (i := 716) (by decide +kernel), List.mem_of_getElem? (i := 879) (by decide +kernel), List.mem_of_getElem? (i := 880) (by decide +kernel)⟩
theorem lw_p71 : lw_okq (⟨"RangeReckonerModel", "push", "(I)V"⟩, 35) := ⟨⟨by decide +kernel, by decide +kernel⟩, List.mem_of_getElem? (i := 716) (by decide +kernel), List.mem_of_getElem? (i := 883) (by decide +kernel), List.mem_of_getElem? (i := 884) (by decide +kernel)⟩
theorem lw_p72 : lw_okq (⟨"RangeReckonerModel", "enter", "(I)V"⟩, 35) := ⟨⟨by decide +kernel, by decide +kernel⟩, List.mem_of_getElem? (i := 716) (by decide +kernel), List.mem_of_getElem? (i := 887) (by decide +kernel), List.mem_of_getElem? (i := 888) (by decide +kernel)⟩
theorem lw_p73 : lw_okq (⟨"RangeReckonerModel", "hold", "(II)V"⟩, 35) := ⟨⟨by decide +kernel, by decide +kernel⟩, List.mem_of_getElem? (i := 716) (by decide +kernel), List.mem_of_getElem? (i := 891) (by decide +kernel), List.mem_of_getElem? (i := 892) (by decide +kernel)⟩
theorem lw_p74 : lw_okq (⟨"RangeReckonerModel", "wasRead", "()V"⟩, 35) := ⟨⟨by decide +kernel, by decide +kernel⟩, List.mem_of_getElem? (i := 716) (by decide +kernel), List.mem_of_getElem? (i := 895) (by decide +kernel), List.mem_of_getElem? (i := 896) (by decide +kernel)⟩
theorem lw_p75 : lw_okq (⟨"RangeReckonerModel", "topOp", "()I"⟩, 35) := ⟨⟨by decide +kernel, by decide +kernel⟩, List.mem_of_getElem? (i := 716) (by decide +kernel), List.mem_of_getElem? (i := 899) (by decide +kernel), List.mem_of_getElem? (i := 900) (by decide +kernel)⟩
theorem lw_p76 : lw_okq (⟨"RangeReckonerModel", "doTwo", "(II)V"⟩, 35) := ⟨⟨by decide +kernel, by decide +kernel⟩, List.mem_of_getElem? (i := 716) (by decide +kernel), List.mem_of_getElem? (i := 906) (by decide +kernel), List.mem_of_getElem? (i := 907) (by decide +kernel)⟩
theorem lw_p77 : lw_okq (⟨"RangeReckonerModel", "pop", "()I"⟩, 35) := ⟨⟨by decide +kernel, by decide +kernel⟩, List.mem_of_getElem? (i := 716) (by decide +kernel), List.mem_of_getElem? (i := 910) (by decide +kernel), List.mem_of_getElem? (i := 911) (by decide +kernel)⟩
theorem lw_p78 : lw_okq (⟨"RangeReckonerModel", "ends", "(JJJJ)V"⟩, 35) := ⟨⟨by decide +kernel, by decide +kernel⟩, List.mem_of_getElem? (i := 716) (by decide +kernel), List.mem_of_getElem? (i := 914) (by decide +kernel), List.mem_of_getElem? (i := 915) (by decide +kernel)⟩
theorem lw_p79 : lw_okq (⟨"RangeReckonerModel", "doOne", "(II)V"⟩, 35) := ⟨⟨by decide +kernel, by decide +kernel⟩, List.mem_of_getElem? (i := 716) (by decide +kernel), List.mem_of_getElem? (i := 927) (by decide +kernel), List.mem_of_getElem? (i := 928) (by decide +kernel)⟩
def lw_privs_5 : List (MethodName × Nat) := [(⟨"RangeReckonerModel", "next", "()V"⟩, 35), (⟨"RangeReckonerModel", "at", "(I)I"⟩, 35), (⟨"RangeReckonerModel", "isDigit", "(I)Z"⟩, 35), (⟨"RangeReckonerModel", "stands", "(III)Z"⟩, 35), (⟨"RangeReckonerModel", "begins", "()Z"⟩, 35), (⟨"RangeReckonerModel", "part", "(IIIJJ)I"⟩, 35), (⟨"RangeReckonerModel", "bad", "(II)V"⟩, 35), (⟨"RangeReckonerModel", "push", "(I)V"⟩, 35), (⟨"RangeReckonerModel", "enter", "(I)V"⟩, 35), (⟨"RangeReckonerModel", "hold", "(II)V"⟩, 35), (⟨"RangeReckonerModel", "wasRead", "()V"⟩, 35), (⟨"RangeReckonerModel", "topOp", "()I"⟩, 35), (⟨"RangeReckonerModel", "doTwo", "(II)V"⟩, 35), (⟨"RangeReckonerModel", "pop", "()I"⟩, 35), (⟨"RangeReckonerModel", "ends", "(JJJJ)V"⟩, 35), (⟨"RangeReckonerModel", "doOne", "(II)V"⟩, 35)]
theorem lw_r5 : ∀ q ∈ lw_privs_5, lw_okq q := List.forall_mem_cons.mpr ⟨lw_p64, List.forall_mem_cons.mpr ⟨lw_p65, List.forall_mem_cons.mpr ⟨lw_p66, List.forall_mem_cons.mpr ⟨lw_p67, List.forall_mem_cons.mpr ⟨lw_p68, List.forall_mem_cons.mpr ⟨lw_p69, List.forall_mem_cons.mpr ⟨lw_p70, List.forall_mem_cons.mpr ⟨lw_p71, List.forall_mem_cons.mpr ⟨lw_p72, List.forall_mem_cons.mpr ⟨lw_p73, List.forall_mem_cons.mpr ⟨lw_p74, List.forall_mem_cons.mpr ⟨lw_p75, List.forall_mem_cons.mpr ⟨lw_p76, List.forall_mem_cons.mpr ⟨lw_p77, List.forall_mem_cons.mpr ⟨lw_p78, List.forall_mem_cons.mpr ⟨lw_p79, fun _ h => absurd h List.not_mem_nil⟩⟩⟩⟩⟩⟩⟩⟩⟩⟩⟩⟩⟩⟩⟩⟩
theorem lw_p80 : lw_okq (⟨"RangeReckonerModel", "goesOn", "()Z"⟩, 35) := ⟨⟨by decide +kernel, by decide +kernel⟩, List.mem_of_getElem? (i := 716) (by decide +kernel), List.mem_of_getElem? (i := 931) (by decide +kernel), List.mem_of_getElem? (i := 932) (by decide +kernel)⟩
theorem lw_p81 : lw_okq (⟨"RangeReckonerModel", "doAll", "(I)V"⟩, 35) := ⟨⟨by decide +kernel, by decide +kernel⟩, List.mem_of_getElem? (i := 716) (by decide +kernel), List.mem_of_getElem? (i := 935) (by decide +kernel), List.mem_of_getElem? (i := 936) (by decide +kernel)⟩
theorem lw_p82 : lw_okq (⟨"RangeReckonerModel", "termEnds", "()V"⟩, 35) := ⟨⟨by decide +kernel, by decide +kernel⟩, List.mem_of_getElem? (i := 716) (by decide +kernel), List.mem_of_getElem? (i := 939) (by decide +kernel), List.mem_of_getElem? (i := 940) (by decide +kernel)⟩
theorem lw_p83 : lw_okq (⟨"RangeReckonerModel", "doChoice", "(I)V"⟩, 35) := ⟨⟨by decide +kernel, by decide +kernel⟩, List.mem_of_getElem? (i := 716) (by decide +kernel), List.mem_of_getElem? (i := 943) (by decide +kernel), List.mem_of_getElem? (i := 944) (by decide +kernel)⟩
theorem lw_p84 : lw_okq (⟨"RangeReckonerModel", "termFault", "()V"⟩, 35) := ⟨⟨by decide +kernel, by decide +kernel⟩, List.mem_of_getElem? (i := 716) (by decide +kernel), List.mem_of_getElem? (i := 947) (by decide +kernel), List.mem_of_getElem? (i := 948) (by decide +kernel)⟩
theorem lw_p85 : lw_okq (⟨"RangeReckonerModel", "worthOf", "(I)J"⟩, 35) := ⟨⟨by decide +kernel, by decide +kernel⟩, List.mem_of_getElem? (i := 716) (by decide +kernel), List.mem_of_getElem? (i := 959) (by decide +kernel), List.mem_of_getElem? (i := 960) (by decide +kernel)⟩
def lw_privs_6 : List (MethodName × Nat) := [(⟨"RangeReckonerModel", "goesOn", "()Z"⟩, 35), (⟨"RangeReckonerModel", "doAll", "(I)V"⟩, 35), (⟨"RangeReckonerModel", "termEnds", "()V"⟩, 35), (⟨"RangeReckonerModel", "doChoice", "(I)V"⟩, 35), (⟨"RangeReckonerModel", "termFault", "()V"⟩, 35), (⟨"RangeReckonerModel", "worthOf", "(I)J"⟩, 35)]
theorem lw_r6 : ∀ q ∈ lw_privs_6, lw_okq q := List.forall_mem_cons.mpr ⟨lw_p80, List.forall_mem_cons.mpr ⟨lw_p81, List.forall_mem_cons.mpr ⟨lw_p82, List.forall_mem_cons.mpr ⟨lw_p83, List.forall_mem_cons.mpr ⟨lw_p84, List.forall_mem_cons.mpr ⟨lw_p85, fun _ h => absurd h List.not_mem_nil⟩⟩⟩⟩⟩⟩
def lw_privs : List (MethodName × Nat) := lw_privs_1 ++ (lw_privs_2 ++ (lw_privs_3 ++ (lw_privs_4 ++ (lw_privs_5 ++ (lw_privs_6)))))
def lw_tbl : List Cond := k2_sels lw_privs ++ tables_1
theorem lw_privs_ok : ∀ q ∈ lw_privs, lw_okq q := by
  show ∀ q ∈ lw_privs_1 ++ (lw_privs_2 ++ (lw_privs_3 ++ (lw_privs_4 ++ (lw_privs_5 ++ (lw_privs_6))))), lw_okq q
  exact List.forall_mem_append.mpr ⟨lw_r1, List.forall_mem_append.mpr ⟨lw_r2, List.forall_mem_append.mpr ⟨lw_r3, List.forall_mem_append.mpr ⟨lw_r4, List.forall_mem_append.mpr ⟨lw_r5, lw_r6⟩⟩⟩⟩⟩
end
section
/-! A WORLD OF FIXED CELLS. A heap is three tables of numbers: ints, longs, cells' names. -/
abbrev zH : Type := (Nat → Nat → Int32) × (Nat → Nat → Int64) × (Nat → Nat → Nat)
def zi (h : zH) (k j : Nat) (x : Int32) : zH := (fun a b => if a = k ∧ b = j then x else h.1 a b, h.2)
def zl (h : zH) (k j : Nat) (x : Int64) : zH := (h.1, fun a b => if a = k ∧ b = j then x else h.2.1 a b, h.2.2)
def zr (h : zH) (k j : Nat) (x : Nat) : zH := (h.1, h.2.1, fun a b => if a = k ∧ b = j then x else h.2.2 a b)
/-- how many cells; what cell k is (0: an object of sort n; 1: n ints; 2: n longs); the slots of a sort (0 int, 1 long, 2 the cell k + n, 3 the cell n, else a cell that may change) -/
abbrev zX : Type := Nat × (Nat → Nat × Nat) × (Nat → List (Nat × Nat))
/-- the numbers and slots of the sorts; those of the arrays; where each cell lies -/
abbrev zE : Type := va_G × (ClassId × ClassId) × (Nat → Nat) × (Nat → Nat) × (Nat → Nat)
def zv (E : zE) (h : zH) (k j : Nat) (q : Nat × Nat) : Value := match q.1 with
  | 0 => .int (h.1 k j)
  | 1 => .long (h.2.1 k j)
  | 2 => .ref (E.2.2.1 (k + q.2))
  | 3 => .ref (E.2.2.1 q.2)
  | _ => .ref (E.2.2.1 (h.2.2 k j))
def zf (E : zE) (h : zH) (k : Nat) (t : List (Nat × Nat)) : List Value := (List.range t.length).map (fun j => zv E h k j (t.getD j (0, 0)))
def ze (X : zX) (E : zE) (h : zH) (k : Nat) : va_E := match (X.2.1 k).1 with
  | 0 => .inr ((X.2.1 k).2, zf E h k (X.2.2 (X.2.1 k).2))
  | 1 => .inl (E.2.1.1, (X.2.1 k).2, .inl (h.1 k))
  | _ => .inl (E.2.1.2, (X.2.1 k).2, .inr (.inl (h.2.1 k)))
def zw (X : zX) (E : zE) (h : zH) : va_W := (List.range X.1).map (fun k => (E.2.2.1 k, ze X E h k))
def zty (E : zE) : List (ClassId × FieldType) := [(E.2.1.1, .int), (E.2.1.2, .long)]
def zA (X : zX) (E : zE) (sz : Nat) : Nat → Prop := fun q => (∃ k : Nat, k < X.1 ∧ q = E.2.2.1 k) ∨ sz ≤ q
theorem zw_at {X : zX} {E : zE} {h : zH} {k : Nat} (hk : k < X.1) : (zw X E h)[k]? = some (E.2.2.1 k, ze X E h k) := by
  simp [zw, hk]
theorem ze_obj {X : zX} {E : zE} {h : zH} {k ci : Nat} (hk : X.2.1 k = (0, ci)) : ze X E h k = .inr (ci, zf E h k (X.2.2 ci)) := by
  simp only [ze, hk]
theorem ze_int {X : zX} {E : zE} {h : zH} {k n : Nat} (hk : X.2.1 k = (1, n)) : ze X E h k = .inl (E.2.1.1, n, .inl (h.1 k)) := by
  simp only [ze, hk]
theorem ze_long {X : zX} {E : zE} {h : zH} {k n : Nat} (hk : X.2.1 k = (2, n)) : ze X E h k = .inl (E.2.1.2, n, .inr (.inl (h.2.1 k))) := by
  simp only [ze, hk]
theorem zf_len (E : zE) (h : zH) (k : Nat) (t : List (Nat × Nat)) : (zf E h k t).length = t.length := by simp [zf]
theorem zf_at {E : zE} {h : zH} {k j : Nat} {t : List (Nat × Nat)} {q : Nat × Nat} (hq : t[j]? = some q) : (zf E h k t)[j]? = some (zv E h k j q) := by
  obtain ⟨hj, e⟩ := List.getElem?_eq_some_iff.mp hq
  simp [zf, hj, e]
/-- the cells' places are the same whatever they hold -/
theorem zw_D {X : zX} {E : zE} {A : Nat → Prop} {h h' : zH} (hD : va_D A (zw X E h)) : va_D A (zw X E h') := by
  have key : ∀ (k : Nat) (q : Nat × va_E), (zw X E h')[k]? = some q → ∃ q' : Nat × va_E, (zw X E h)[k]? = some q' ∧ q'.1 = q.1 := by
    intro k q hq
    have hk : k < X.1 := by
      have := (List.getElem?_eq_some_iff.mp hq).1
      simpa [zw] using this
    rw [zw_at hk] at hq
    cases hq
    exact ⟨_, zw_at hk, rfl⟩
  refine ⟨fun i j p q hp hq e => ?_, fun k q hq => ?_⟩
  · obtain ⟨p', hp', e1⟩ := key i p hp
    obtain ⟨q', hq', e2⟩ := key j q hq
    exact hD.1 i j p' q' hp' hq' (by rw [e1, e2, e])
  · obtain ⟨q', hq', e2⟩ := key k q hq
    rw [← e2]
    exact hD.2 k q' hq'
theorem zw_ext {X : zX} {E : zE} {h h' : zH} {k : Nat} {a : Nat × va_E} (hk : k < X.1) (ha : a = (E.2.2.1 k, ze X E h' k)) (ho : ∀ j : Nat, j ≠ k → ze X E h' j = ze X E h j) : (zw X E h).set k a = zw X E h' := by
  apply List.ext_getElem?
  intro j
  by_cases hj : j < X.1
  · by_cases e : k = j
    · subst e
      rw [zw_at hk, List.getElem?_set_self (by simpa [zw] using hk), ha]
    · rw [List.getElem?_set_ne e, zw_at hj, zw_at hj, ho j (Ne.symm e)]
  · rw [List.getElem?_eq_none (by simpa [zw] using Nat.le_of_not_lt hj), List.getElem?_eq_none (by simpa [zw] using Nat.le_of_not_lt hj)]
theorem zi_ne {h : zH} {k j : Nat} {x : Int32} {a : Nat} (ha : a ≠ k) : (zi h k j x).1 a = h.1 a := by
  funext b
  simp [zi, ha]
theorem zl_ne {h : zH} {k j : Nat} {x : Int64} {a : Nat} (ha : a ≠ k) : (zl h k j x).2.1 a = h.2.1 a := by
  funext b
  simp [zl, ha]
theorem zr_ne {h : zH} {k j : Nat} {x : Nat} {a : Nat} (ha : a ≠ k) : (zr h k j x).2.2 a = h.2.2 a := by
  funext b
  simp [zr, ha]
theorem zi_self (h : zH) (k j : Nat) (x : Int32) : (zi h k j x).1 k = upd (h.1 k) j x := by
  funext b
  simp [zi, upd]
theorem zl_self (h : zH) (k j : Nat) (x : Int64) : (zl h k j x).2.1 k = vp_updL (h.2.1 k) j x := by
  funext b
  simp [zl, vp_updL]
theorem ze_zi_ne {X : zX} {E : zE} {h : zH} {k j : Nat} {x : Int32} {a : Nat} (ha : a ≠ k) : ze X E (zi h k j x) a = ze X E h a := by
  have e := zi_ne (h := h) (j := j) (x := x) ha
  simp only [ze, zf, zv, e]
  rfl
theorem ze_zl_ne {X : zX} {E : zE} {h : zH} {k j : Nat} {x : Int64} {a : Nat} (ha : a ≠ k) : ze X E (zl h k j x) a = ze X E h a := by
  have e := zl_ne (h := h) (j := j) (x := x) ha
  simp only [ze, zf, zv, e]
  rfl
theorem ze_zr_ne {X : zX} {E : zE} {h : zH} {k j : Nat} {x : Nat} {a : Nat} (ha : a ≠ k) : ze X E (zr h k j x) a = ze X E h a := by
  have e := zr_ne (h := h) (j := j) (x := x) ha
  simp only [ze, zf, zv, e]
  rfl
theorem zw_int {X : zX} {E : zE} {h : zH} {k n j : Nat} {x : Int32} (hk : k < X.1) (hX : X.2.1 k = (1, n)) : (zw X E h).set k (E.2.2.1 k, .inl (E.2.1.1, n, .inl (upd (h.1 k) j x))) = zw X E (zi h k j x) :=
  zw_ext hk (by rw [ze_int hX, zi_self]) (fun _ ha => ze_zi_ne ha)
theorem zw_long {X : zX} {E : zE} {h : zH} {k n j : Nat} {x : Int64} (hk : k < X.1) (hX : X.2.1 k = (2, n)) : (zw X E h).set k (E.2.2.1 k, .inl (E.2.1.2, n, .inr (.inl (vp_updL (h.2.1 k) j x)))) = zw X E (zl h k j x) :=
  zw_ext hk (by rw [ze_long hX, zl_self]) (fun _ ha => ze_zl_ne ha)
theorem zf_set {E : zE} {h h' : zH} {k j : Nat} {t : List (Nat × Nat)} {q : Nat × Nat} {v : Value} (hq : t[j]? = some q) (hv : v = zv E h' k j q) (ho : ∀ (b : Nat) (r : Nat × Nat), b ≠ j → zv E h' k b r = zv E h k b r) : (zf E h k t).set j v = zf E h' k t := by
  have hj : j < t.length := (List.getElem?_eq_some_iff.mp hq).1
  apply List.ext_getElem?
  intro b
  by_cases hb : b < t.length
  · obtain ⟨r, hr⟩ : ∃ r, t[b]? = some r := ⟨_, List.getElem?_eq_getElem hb⟩
    by_cases e : j = b
    · subst e
      rw [List.getElem?_set_self (by rw [zf_len]; exact hj), zf_at hq, hv]
    · rw [List.getElem?_set_ne e, zf_at hr, zf_at hr, ho b r (Ne.symm e)]
  · rw [List.getElem?_eq_none (by rw [List.length_set, zf_len]; exact Nat.le_of_not_lt hb), List.getElem?_eq_none (by rw [zf_len]; exact Nat.le_of_not_lt hb)]
theorem zw_fi {X : zX} {E : zE} {h : zH} {k ci j n : Nat} {x : Int32} (hk : k < X.1) (hX : X.2.1 k = (0, ci)) (hq : (X.2.2 ci)[j]? = some (0, n)) : (zw X E h).set k (E.2.2.1 k, .inr (ci, (zf E h k (X.2.2 ci)).set j (.int x))) = zw X E (zi h k j x) := by
  refine zw_ext hk ?_ (fun _ ha => ze_zi_ne ha)
  rw [ze_obj hX, zf_set (h' := zi h k j x) hq (by simp [zv, zi]) (fun b r hb => by simp [zv, zi, hb])]
theorem zw_fl {X : zX} {E : zE} {h : zH} {k ci j n : Nat} {x : Int64} (hk : k < X.1) (hX : X.2.1 k = (0, ci)) (hq : (X.2.2 ci)[j]? = some (1, n)) : (zw X E h).set k (E.2.2.1 k, .inr (ci, (zf E h k (X.2.2 ci)).set j (.long x))) = zw X E (zl h k j x) := by
  refine zw_ext hk ?_ (fun _ ha => ze_zl_ne ha)
  rw [ze_obj hX, zf_set (h' := zl h k j x) hq (by simp [zv, zl]) (fun b r hb => by simp [zv, zl, hb])]
theorem zw_fr {X : zX} {E : zE} {h : zH} {k ci j n : Nat} {x : Nat} (hk : k < X.1) (hX : X.2.1 k = (0, ci)) (hq : (X.2.2 ci)[j]? = some (4, n)) : (zw X E h).set k (E.2.2.1 k, .inr (ci, (zf E h k (X.2.2 ci)).set j (.ref (E.2.2.1 x)))) = zw X E (zr h k j x) := by
  refine zw_ext hk ?_ (fun _ ha => ze_zr_ne ha)
  rw [ze_obj hX, zf_set (h' := zr h k j x) hq (by simp [zv, zr]) (fun b r hb => by simp [zv, zr, hb])]

def zLH (ls : Array Slot) (n : Nat) (lv : List (Option Value)) : Prop := ls.size = n ∧ lv_wf ls ∧ ∀ (i : Nat) (v : Value), lv[i]? = some (some v) → ls[i]? = some (.val v)
def zas (lv : List (Option Value)) : List (Nat × Value) := (List.range lv.length).filterMap (fun i => (lv.getD i none).map (fun v => (i, v)))
theorem zas_mem {lv : List (Option Value)} {i : Nat} {v : Value} : (i, v) ∈ zas lv ↔ lv[i]? = some (some v) := by
  simp only [zas, List.mem_filterMap, List.mem_range]
  constructor
  · rintro ⟨a, ha, hb⟩
    cases hq : lv.getD a none with
    | none => rw [hq] at hb; cases hb
    | some w =>
      rw [hq] at hb
      simp only [Option.map_some, Option.some.injEq, Prod.mk.injEq] at hb
      obtain ⟨rfl, rfl⟩ := hb
      rw [List.getD_eq_getElem?_getD] at hq
      rw [List.getElem?_eq_getElem ha] at hq ⊢
      simp only [Option.getD_some] at hq
      rw [hq]
  · intro h
    have ha : i < lv.length := (List.getElem?_eq_some_iff.mp h).1
    exact ⟨i, ha, by rw [List.getD_eq_getElem?_getD, h]; rfl⟩
theorem zLH.has {ls : Array Slot} {n : Nat} {lv : List (Option Value)} (h : zLH ls n lv) : lv_has ls n (zas lv) := ⟨h.1, h.2.1, fun q hq => h.2.2 q.1 q.2 (zas_mem.mp hq)⟩
/-- the place ahead holds no long -/
def zpv (lv : List (Option Value)) : Nat → Bool
  | 0 => true
  | i + 1 => match lv[i]? with
    | some (some w) => w.category == 1
    | _ => true
theorem zpv_ok {lv : List (Option Value)} {i j : Nat} {w : Value} (h : zpv lv i = true) (hj : lv[j]? = some (some w)) (e : j + 1 = i) : ¬ w.category = 2 := by
  subst e
  simp only [zpv, hj] at h
  intro q
  rw [q] at h
  cases h
theorem zLH.st1 {ls : Array Slot} {n i : Nat} {lv : List (Option Value)} {v : Value} (h : lv_has ls n ((i, v) :: (zas lv).filter (fun q => !(q.1 == i) && !(q.1 + 1 == i && q.2.category == 2)))) (hp : zpv lv i = true) : zLH ls n (lv.set i (some v)) := by
  refine ⟨h.1, h.2.1, fun j w hw => ?_⟩
  by_cases e : i = j
  · subst e
    have hl : i < lv.length := by
      have := (List.getElem?_eq_some_iff.mp hw).1
      simpa using this
    rw [List.getElem?_set_self hl] at hw
    cases hw
    exact h.2.2 (i, v) List.mem_cons_self
  · rw [List.getElem?_set_ne e] at hw
    refine h.2.2 (j, w) (List.mem_cons_of_mem _ (List.mem_filter.mpr ⟨zas_mem.mpr hw, ?_⟩))
    have h2 : j + 1 = i → ¬ w.category = 2 := zpv_ok hp hw
    simp only [Bool.and_eq_true, Bool.not_eq_true', beq_eq_false_iff_ne, ne_eq, Bool.and_eq_false_imp, beq_iff_eq]
    exact ⟨fun q => e q.symm, h2⟩
theorem zLH.st2 {ls : Array Slot} {n i : Nat} {lv : List (Option Value)} {v : Value} (h : lv_has ls n ((i, v) :: (zas lv).filter (fun q => !(q.1 == i) && (!(q.1 == i + 1) && !(q.1 + 1 == i && q.2.category == 2))))) (hp : zpv lv i = true) : zLH ls n ((lv.set i (some v)).set (i + 1) none) := by
  refine ⟨h.1, h.2.1, fun j w hw => ?_⟩
  by_cases e1 : i + 1 = j
  · subst e1
    have hl := (List.getElem?_eq_some_iff.mp hw).1
    rw [List.getElem?_set_self (by simpa using hl)] at hw
    cases hw
  rw [List.getElem?_set_ne e1] at hw
  by_cases e : i = j
  · subst e
    have hl : i < lv.length := by
      have := (List.getElem?_eq_some_iff.mp hw).1
      simpa using this
    rw [List.getElem?_set_self hl] at hw
    cases hw
    exact h.2.2 (i, v) List.mem_cons_self
  · rw [List.getElem?_set_ne e] at hw
    refine h.2.2 (j, w) (List.mem_cons_of_mem _ (List.mem_filter.mpr ⟨zas_mem.mpr hw, ?_⟩))
    have h2 : j + 1 = i → ¬ w.category = 2 := zpv_ok hp hw
    simp only [Bool.and_eq_true, Bool.not_eq_true', beq_eq_false_iff_ne, ne_eq, Bool.and_eq_false_imp, beq_iff_eq]
    exact ⟨fun q => e q.symm, fun q => e1 q.symm, h2⟩

def zav : List Value → List (Option Value)
  | [] => []
  | v :: vs => if v.category = 2 then some v :: none :: zav vs else some v :: zav vs
theorem zav_mem : ∀ (vs : List Value) (b i : Nat) (v : Value), (zav vs)[i]? = some (some v) → (b + i, v) ∈ lv_args b vs
  | [], _, i, v, h => by simp [zav] at h
  | w :: vs, b, i, v, h => by
    by_cases hc : w.category = 2
    · simp only [zav, hc, if_true] at h
      match i, h with
      | 0, h =>
        simp only [List.getElem?_cons_zero, Option.some.injEq] at h
        subst h
        exact List.mem_cons_self
      | 1, h => simp at h
      | i + 2, h =>
        simp only [List.getElem?_cons_succ] at h
        have := zav_mem vs (b + 2) i v h
        rw [show b + (i + 2) = b + 2 + i by omega]
        simp only [lv_args, hc, if_true]
        exact List.mem_cons_of_mem _ this
    · simp only [zav, hc, if_false] at h
      match i, h with
      | 0, h =>
        simp only [List.getElem?_cons_zero, Option.some.injEq] at h
        subst h
        exact List.mem_cons_self
      | i + 1, h =>
        simp only [List.getElem?_cons_succ] at h
        have := zav_mem vs (b + 1) i v h
        rw [show b + (i + 1) = b + 1 + i by omega]
        simp only [lv_args, hc, if_false]
        exact List.mem_cons_of_mem _ this
def zlv (vs : List Value) (n : Nat) : List (Option Value) := zav vs ++ List.replicate (n - (zav vs).length) none
theorem zlv_in {ls : Array Slot} {n : Nat} {vs : List Value} (h : lv_has ls n (lv_args 0 vs)) : zLH ls n (zlv vs n) := by
  refine ⟨h.1, h.2.1, fun i v hv => ?_⟩
  unfold zlv at hv
  by_cases hi : i < (zav vs).length
  · rw [List.getElem?_append_left hi] at hv
    have := h.2.2 _ (zav_mem vs 0 i v hv)
    simpa using this
  · rw [List.getElem?_append_right (Nat.le_of_not_lt hi), List.getElem?_replicate] at hv
    split at hv <;> cases hv
/-! THE WALK -/
def zrm (d w : Nat) : Room := { frames := d, cells := 0, slots := 0, locals := w }
section ZZ

variable {p : Program} {l : Launch} {e : Env} {R : Room} {s : State} {m : MethodId} {args : Array Value} {below : List Frame} {meth : Method} {c : Code} {Q : State → Prop}
variable {cc : ByteArray} {nL : Nat} {T : List Cond} {own : String} {X : zX} {E : zE} {cl : List vw_C} {N : List Cond} {A : Nat → Prop} {kc ks : Nat} {G : (Nat → Prop) → State → Prop}
variable {h : zH} {pc : Nat} {lv : List (Option Value)} {rest : List Value}


def ZW (p : Program) (l : Launch) (e : Env) (R : Room) (s : State) (m : MethodId) (args : Array Value) (below : List Frame) (meth : Method) (c : Code) (Q : State → Prop) (X : zX) (E : zE) (cl : List vw_C) (A : Nat → Prop) (H0 : Heap) (nL kc ks : Nat) (h : zH) (pc : Nat) (lv : List (Option Value)) (st : List Value) : Prop :=
  ∀ (H : Heap) (locs : List Loc) (ls : Array Slot), va_P E.1 cl (zw X E h) H → va_D A (zw X E h) → va_S A H0 H locs → zLH ls nL lv → W p l e R s m args below meth c H locs kc ks Q (F0 m pc ls st)
/-- what holds all the way through a method -/
def ZC (p : Program) (R : Room) (s : State) (m : MethodId) (args : Array Value) (meth : Method) (c : Code) (cc : ByteArray) (nL : Nat) (T : List Cond) (own : String) (E : zE) (cl : List vw_C) (N : List Cond) (G : (Nat → Prop) → State → Prop) (A : Nat → Prop) (X : zX) (kc ks : Nat) (H0 : Heap) : Prop :=
  CallFix p m c cc nL s args T own ∧ va_K E.1 cl (zty E) s ∧ (∀ w ∈ N, va_Nw w s) ∧ meth.locks = false ∧ (kc ≤ R.cells ∧ ks ≤ R.slots) ∧ (∀ q : Nat, H0.size ≤ q → A q) ∧ G A s
theorem z_iconst (C : ZC p R s m args meth c cc nL T own E cl N G A X kc ks s.heap) {n : Int} {v : Int32} (hd : decode cc pc = .ok (.iconst n, 1)) (hv : Int32.ofInt n = v) (k : ZW p l e R s m args below meth c Q X E cl A s.heap nL kc ks h (pc + 1) lv (.int v :: rest)) : ZW p l e R s m args below meth c Q X E cl A s.heap nL kc ks h (pc) lv (rest) := fun H locs ls hP hD hS hL => lv_iconst C.1.1 C.1.2.1 hd hv (k H locs ls hP hD hS hL)
theorem z_bipush (C : ZC p R s m args meth c cc nL T own E cl N G A X kc ks s.heap) {n : Int} {v : Int32} (hd : decode cc pc = .ok (.bipush n, 2)) (hv : (Int8.ofInt n).toInt32 = v) (k : ZW p l e R s m args below meth c Q X E cl A s.heap nL kc ks h (pc + 2) lv (.int v :: rest)) : ZW p l e R s m args below meth c Q X E cl A s.heap nL kc ks h (pc) lv (rest) := fun H locs ls hP hD hS hL => lv_bipush C.1.1 C.1.2.1 hd hv (k H locs ls hP hD hS hL)
theorem z_sipush (C : ZC p R s m args meth c cc nL T own E cl N G A X kc ks s.heap) {n : Int} {v : Int32} (hd : decode cc pc = .ok (.sipush n, 3)) (hv : (Int16.ofInt n).toInt32 = v) (k : ZW p l e R s m args below meth c Q X E cl A s.heap nL kc ks h (pc + 3) lv (.int v :: rest)) : ZW p l e R s m args below meth c Q X E cl A s.heap nL kc ks h (pc) lv (rest) := fun H locs ls hP hD hS hL => lv_sipush C.1.1 C.1.2.1 hd hv (k H locs ls hP hD hS hL)
theorem z_lconst (C : ZC p R s m args meth c cc nL T own E cl N G A X kc ks s.heap) {n : Fin 2} {v : Int64} (hd : decode cc pc = .ok (.lconst n, 1)) (hv : Int64.ofNat (n : Nat) = v) (k : ZW p l e R s m args below meth c Q X E cl A s.heap nL kc ks h (pc + 1) lv (.long v :: rest)) : ZW p l e R s m args below meth c Q X E cl A s.heap nL kc ks h (pc) lv (rest) := fun H locs ls hP hD hS hL => lv_lconst C.1.1 C.1.2.1 hd hv (k H locs ls hP hD hS hL)
theorem z_null (C : ZC p R s m args meth c cc nL T own E cl N G A X kc ks s.heap)  (hd : decode cc pc = .ok (.aconst_null, 1)) (k : ZW p l e R s m args below meth c Q X E cl A s.heap nL kc ks h (pc + 1) lv (.null :: rest)) : ZW p l e R s m args below meth c Q X E cl A s.heap nL kc ks h (pc) lv (rest) := fun H locs ls hP hD hS hL => lv_null C.1.1 C.1.2.1 hd (k H locs ls hP hD hS hL)
theorem z_ldc (C : ZC p R s m args meth c cc nL T own E cl N G A X kc ks s.heap) {i : Nat} {v : Int32} (hw : Jvm.Cond.constant own i v ∈ T) (hd : decode cc pc = .ok (.ldc i, 2)) (k : ZW p l e R s m args below meth c Q X E cl A s.heap nL kc ks h (pc + 2) lv (.int v :: rest)) : ZW p l e R s m args below meth c Q X E cl A s.heap nL kc ks h (pc) lv (rest) := fun H locs ls hP hD hS hL => lv_ldc C.1.1 C.1.2.1 C.1.2.2.2.1 (C.1.2.2.2.2 _ hw) hd (k H locs ls hP hD hS hL)
theorem z_ldc2 (C : ZC p R s m args meth c cc nL T own E cl N G A X kc ks s.heap) {i : Nat} {v : Int64} (hw : Jvm.Cond.constantLong own i v ∈ T) (hd : decode cc pc = .ok (.ldc2_w i, 3)) (k : ZW p l e R s m args below meth c Q X E cl A s.heap nL kc ks h (pc + 3) lv (.long v :: rest)) : ZW p l e R s m args below meth c Q X E cl A s.heap nL kc ks h (pc) lv (rest) := fun H locs ls hP hD hS hL => lv_ldc2 C.1.1 C.1.2.1 C.1.2.2.2.1 (C.1.2.2.2.2 _ hw) hd (k H locs ls hP hD hS hL)
theorem z_ldcw (C : ZC p R s m args meth c cc nL T own E cl N G A X kc ks s.heap) {i : Nat} {v : Int32} (hw : Jvm.Cond.constant own i v ∈ T) (hd : decode cc pc = .ok (.ldc_w i, 3)) (k : ZW p l e R s m args below meth c Q X E cl A s.heap nL kc ks h (pc + 3) lv (.int v :: rest)) : ZW p l e R s m args below meth c Q X E cl A s.heap nL kc ks h (pc) lv (rest) := fun H locs ls hP hD hS hL => lv_ldcw C.1.1 C.1.2.1 C.1.2.2.2.1 (C.1.2.2.2.2 _ hw) hd (k H locs ls hP hD hS hL)
theorem z_ldcS (C : ZC p R s m args meth c cc nL T own E cl N G A X kc ks s.heap) {i q : Nat} {tx : String} (hz : vk_R own i tx q s) (hd : decode cc pc = .ok (.ldc i, 2)) (k : ZW p l e R s m args below meth c Q X E cl A s.heap nL kc ks h (pc + 2) lv (.ref q :: rest)) : ZW p l e R s m args below meth c Q X E cl A s.heap nL kc ks h (pc) lv (rest) := fun H locs ls hP hD hS hL => va_ldcS C.1.1 C.1.2.1 C.1.2.2.2.1 hz hd (k H locs ls hP hD hS hL)
theorem z_iload_n (C : ZC p R s m args meth c cc nL T own E cl N G A X kc ks s.heap) {f : Fin 4} {i : Nat} {x : Int32} (hd : decode cc pc = .ok (.iload_n f, 1)) (hi : (f : Nat) = i) (hl : lv[i]? = some (some (.int x))) (k : ZW p l e R s m args below meth c Q X E cl A s.heap nL kc ks h (pc + 1) lv (.int x :: rest)) : ZW p l e R s m args below meth c Q X E cl A s.heap nL kc ks h (pc) lv (rest) := fun H locs ls hP hD hS hL => lv_iload_n C.1.1 C.1.2.1 hd hi (hL.2.2 _ _ hl) (k H locs ls hP hD hS hL)
theorem z_iload (C : ZC p R s m args meth c cc nL T own E cl N G A X kc ks s.heap) {i : Nat} {x : Int32} (hd : decode cc pc = .ok (.iload i, 2)) (hl : lv[i]? = some (some (.int x))) (k : ZW p l e R s m args below meth c Q X E cl A s.heap nL kc ks h (pc + 2) lv (.int x :: rest)) : ZW p l e R s m args below meth c Q X E cl A s.heap nL kc ks h (pc) lv (rest) := fun H locs ls hP hD hS hL => lv_iload C.1.1 C.1.2.1 hd (hL.2.2 _ _ hl) (k H locs ls hP hD hS hL)
theorem z_lload_n (C : ZC p R s m args meth c cc nL T own E cl N G A X kc ks s.heap) {f : Fin 4} {i : Nat} {x : Int64} (hd : decode cc pc = .ok (.lload_n f, 1)) (hi : (f : Nat) = i) (hl : lv[i]? = some (some (.long x))) (k : ZW p l e R s m args below meth c Q X E cl A s.heap nL kc ks h (pc + 1) lv (.long x :: rest)) : ZW p l e R s m args below meth c Q X E cl A s.heap nL kc ks h (pc) lv (rest) := fun H locs ls hP hD hS hL => lv_lload_n C.1.1 C.1.2.1 hd hi (hL.2.2 _ _ hl) (k H locs ls hP hD hS hL)
theorem z_lload (C : ZC p R s m args meth c cc nL T own E cl N G A X kc ks s.heap) {i : Nat} {x : Int64} (hd : decode cc pc = .ok (.lload i, 2)) (hl : lv[i]? = some (some (.long x))) (k : ZW p l e R s m args below meth c Q X E cl A s.heap nL kc ks h (pc + 2) lv (.long x :: rest)) : ZW p l e R s m args below meth c Q X E cl A s.heap nL kc ks h (pc) lv (rest) := fun H locs ls hP hD hS hL => lv_lload C.1.1 C.1.2.1 hd (hL.2.2 _ _ hl) (k H locs ls hP hD hS hL)
theorem z_aload_n (C : ZC p R s m args meth c cc nL T own E cl N G A X kc ks s.heap) {f : Fin 4} {i : Nat} {x : Nat} (hd : decode cc pc = .ok (.aload_n f, 1)) (hi : (f : Nat) = i) (hl : lv[i]? = some (some (.ref x))) (k : ZW p l e R s m args below meth c Q X E cl A s.heap nL kc ks h (pc + 1) lv (.ref x :: rest)) : ZW p l e R s m args below meth c Q X E cl A s.heap nL kc ks h (pc) lv (rest) := fun H locs ls hP hD hS hL => lv_aload_n C.1.1 C.1.2.1 hd hi (hL.2.2 _ _ hl) (k H locs ls hP hD hS hL)
theorem z_aload (C : ZC p R s m args meth c cc nL T own E cl N G A X kc ks s.heap) {i : Nat} {x : Nat} (hd : decode cc pc = .ok (.aload i, 2)) (hl : lv[i]? = some (some (.ref x))) (k : ZW p l e R s m args below meth c Q X E cl A s.heap nL kc ks h (pc + 2) lv (.ref x :: rest)) : ZW p l e R s m args below meth c Q X E cl A s.heap nL kc ks h (pc) lv (rest) := fun H locs ls hP hD hS hL => lv_aload C.1.1 C.1.2.1 hd (hL.2.2 _ _ hl) (k H locs ls hP hD hS hL)
theorem z_istore_n (C : ZC p R s m args meth c cc nL T own E cl N G A X kc ks s.heap) {f : Fin 4} {i : Nat} {x : Int32} (hd : decode cc pc = .ok (.istore_n f, 1)) (hi : (f : Nat) = i) (hn : i < nL) (hp : zpv lv i = true) (k : ZW p l e R s m args below meth c Q X E cl A s.heap nL kc ks h (pc + 1) (lv.set i (some (.int x))) (rest)) : ZW p l e R s m args below meth c Q X E cl A s.heap nL kc ks h (pc) lv (.int x :: rest) := fun H locs ls hP hD hS hL => lv_istore_n C.1.1 C.1.2.1 hd hi hL.has hn rfl (fun ls2 hL2 => k H locs ls2 hP hD hS (zLH.st1 hL2 hp))
theorem z_istore (C : ZC p R s m args meth c cc nL T own E cl N G A X kc ks s.heap) {i : Nat} {x : Int32} (hd : decode cc pc = .ok (.istore i, 2)) (hn : i < nL) (hp : zpv lv i = true) (k : ZW p l e R s m args below meth c Q X E cl A s.heap nL kc ks h (pc + 2) (lv.set i (some (.int x))) (rest)) : ZW p l e R s m args below meth c Q X E cl A s.heap nL kc ks h (pc) lv (.int x :: rest) := fun H locs ls hP hD hS hL => lv_istore C.1.1 C.1.2.1 hd hL.has hn rfl (fun ls2 hL2 => k H locs ls2 hP hD hS (zLH.st1 hL2 hp))
theorem z_astore_n (C : ZC p R s m args meth c cc nL T own E cl N G A X kc ks s.heap) {f : Fin 4} {i : Nat} {x : Nat} (hd : decode cc pc = .ok (.astore_n f, 1)) (hi : (f : Nat) = i) (hn : i < nL) (hp : zpv lv i = true) (k : ZW p l e R s m args below meth c Q X E cl A s.heap nL kc ks h (pc + 1) (lv.set i (some (.ref x))) (rest)) : ZW p l e R s m args below meth c Q X E cl A s.heap nL kc ks h (pc) lv (.ref x :: rest) := fun H locs ls hP hD hS hL => lv_astore_n C.1.1 C.1.2.1 hd hi hL.has hn rfl (fun ls2 hL2 => k H locs ls2 hP hD hS (zLH.st1 hL2 hp))
theorem z_astore (C : ZC p R s m args meth c cc nL T own E cl N G A X kc ks s.heap) {i : Nat} {x : Nat} (hd : decode cc pc = .ok (.astore i, 2)) (hn : i < nL) (hp : zpv lv i = true) (k : ZW p l e R s m args below meth c Q X E cl A s.heap nL kc ks h (pc + 2) (lv.set i (some (.ref x))) (rest)) : ZW p l e R s m args below meth c Q X E cl A s.heap nL kc ks h (pc) lv (.ref x :: rest) := fun H locs ls hP hD hS hL => lv_astore C.1.1 C.1.2.1 hd hL.has hn rfl (fun ls2 hL2 => k H locs ls2 hP hD hS (zLH.st1 hL2 hp))
theorem z_lstore_n (C : ZC p R s m args meth c cc nL T own E cl N G A X kc ks s.heap) {f : Fin 4} {i : Nat} {x : Int64} (hd : decode cc pc = .ok (.lstore_n f, 1)) (hi : (f : Nat) = i) (hn : i + 1 < nL) (hp : zpv lv i = true) (k : ZW p l e R s m args below meth c Q X E cl A s.heap nL kc ks h (pc + 1) ((lv.set i (some (.long x))).set (i + 1) none) (rest)) : ZW p l e R s m args below meth c Q X E cl A s.heap nL kc ks h (pc) lv (.long x :: rest) := fun H locs ls hP hD hS hL => lv_lstore_n C.1.1 C.1.2.1 hd hi hL.has hn rfl (fun ls2 hL2 => k H locs ls2 hP hD hS (zLH.st2 hL2 hp))
theorem z_lstore (C : ZC p R s m args meth c cc nL T own E cl N G A X kc ks s.heap) {i : Nat} {x : Int64} (hd : decode cc pc = .ok (.lstore i, 2)) (hn : i + 1 < nL) (hp : zpv lv i = true) (k : ZW p l e R s m args below meth c Q X E cl A s.heap nL kc ks h (pc + 2) ((lv.set i (some (.long x))).set (i + 1) none) (rest)) : ZW p l e R s m args below meth c Q X E cl A s.heap nL kc ks h (pc) lv (.long x :: rest) := fun H locs ls hP hD hS hL => lv_lstore C.1.1 C.1.2.1 hd hL.has hn rfl (fun ls2 hL2 => k H locs ls2 hP hD hS (zLH.st2 hL2 hp))
theorem z_iinc (C : ZC p R s m args meth c cc nL T own E cl N G A X kc ks s.heap) {i : Nat} {n : Int} {x v : Int32} (hd : decode cc pc = .ok (.iinc i n, 3)) (hl : lv[i]? = some (some (.int x))) (hv : x + Int32.ofInt n = v) (hn : i < nL) (hp : zpv lv i = true) (k : ZW p l e R s m args below meth c Q X E cl A s.heap nL kc ks h (pc + 3) (lv.set i (some (.int v))) (rest)) : ZW p l e R s m args below meth c Q X E cl A s.heap nL kc ks h (pc) lv (rest) := by
  intro H locs ls hP hD hS hL
  obtain ⟨q, hq⟩ := List.getElem?_of_mem (zas_mem.mpr hl)
  exact lv_iinc C.1.1 C.1.2.1 hd hL.has hq hv hn rfl (fun ls2 hL2 => k H locs ls2 hP hD hS (zLH.st1 hL2 hp))
theorem z_iadd (C : ZC p R s m args meth c cc nL T own E cl N G A X kc ks s.heap) {x y : Int32} (hd : decode cc pc = .ok (.iadd, 1)) (k : ZW p l e R s m args below meth c Q X E cl A s.heap nL kc ks h (pc + 1) lv (.int (x + y) :: rest)) : ZW p l e R s m args below meth c Q X E cl A s.heap nL kc ks h (pc) lv (.int y :: .int x :: rest) := fun H locs ls hP hD hS hL => lv_iadd C.1.1 C.1.2.1 hd (k H locs ls hP hD hS hL)
theorem z_isub (C : ZC p R s m args meth c cc nL T own E cl N G A X kc ks s.heap) {x y : Int32} (hd : decode cc pc = .ok (.isub, 1)) (k : ZW p l e R s m args below meth c Q X E cl A s.heap nL kc ks h (pc + 1) lv (.int (x - y) :: rest)) : ZW p l e R s m args below meth c Q X E cl A s.heap nL kc ks h (pc) lv (.int y :: .int x :: rest) := fun H locs ls hP hD hS hL => lv_isub C.1.1 C.1.2.1 hd (k H locs ls hP hD hS hL)
theorem z_imul (C : ZC p R s m args meth c cc nL T own E cl N G A X kc ks s.heap) {x y : Int32} (hd : decode cc pc = .ok (.imul, 1)) (k : ZW p l e R s m args below meth c Q X E cl A s.heap nL kc ks h (pc + 1) lv (.int (x * y) :: rest)) : ZW p l e R s m args below meth c Q X E cl A s.heap nL kc ks h (pc) lv (.int y :: .int x :: rest) := fun H locs ls hP hD hS hL => lv_imul C.1.1 C.1.2.1 hd (k H locs ls hP hD hS hL)
theorem z_iand (C : ZC p R s m args meth c cc nL T own E cl N G A X kc ks s.heap) {x y : Int32} (hd : decode cc pc = .ok (.iand, 1)) (k : ZW p l e R s m args below meth c Q X E cl A s.heap nL kc ks h (pc + 1) lv (.int (x &&& y) :: rest)) : ZW p l e R s m args below meth c Q X E cl A s.heap nL kc ks h (pc) lv (.int y :: .int x :: rest) := fun H locs ls hP hD hS hL => lv_iand C.1.1 C.1.2.1 hd (k H locs ls hP hD hS hL)
theorem z_ior (C : ZC p R s m args meth c cc nL T own E cl N G A X kc ks s.heap) {x y : Int32} (hd : decode cc pc = .ok (.ior, 1)) (k : ZW p l e R s m args below meth c Q X E cl A s.heap nL kc ks h (pc + 1) lv (.int (x ||| y) :: rest)) : ZW p l e R s m args below meth c Q X E cl A s.heap nL kc ks h (pc) lv (.int y :: .int x :: rest) := fun H locs ls hP hD hS hL => lv_ior C.1.1 C.1.2.1 hd (k H locs ls hP hD hS hL)
theorem z_ixor (C : ZC p R s m args meth c cc nL T own E cl N G A X kc ks s.heap) {x y : Int32} (hd : decode cc pc = .ok (.ixor, 1)) (k : ZW p l e R s m args below meth c Q X E cl A s.heap nL kc ks h (pc + 1) lv (.int (x ^^^ y) :: rest)) : ZW p l e R s m args below meth c Q X E cl A s.heap nL kc ks h (pc) lv (.int y :: .int x :: rest) := fun H locs ls hP hD hS hL => lv_ixor C.1.1 C.1.2.1 hd (k H locs ls hP hD hS hL)
theorem z_ishl (C : ZC p R s m args meth c cc nL T own E cl N G A X kc ks s.heap) {x y : Int32} (hd : decode cc pc = .ok (.ishl, 1)) (k : ZW p l e R s m args below meth c Q X E cl A s.heap nL kc ks h (pc + 1) lv (.int (x <<< (y &&& 31)) :: rest)) : ZW p l e R s m args below meth c Q X E cl A s.heap nL kc ks h (pc) lv (.int y :: .int x :: rest) := fun H locs ls hP hD hS hL => lv_ishl C.1.1 C.1.2.1 hd (k H locs ls hP hD hS hL)
theorem z_ishr (C : ZC p R s m args meth c cc nL T own E cl N G A X kc ks s.heap) {x y : Int32} (hd : decode cc pc = .ok (.ishr, 1)) (k : ZW p l e R s m args below meth c Q X E cl A s.heap nL kc ks h (pc + 1) lv (.int (x >>> (y &&& 31)) :: rest)) : ZW p l e R s m args below meth c Q X E cl A s.heap nL kc ks h (pc) lv (.int y :: .int x :: rest) := fun H locs ls hP hD hS hL => lv_ishr C.1.1 C.1.2.1 hd (k H locs ls hP hD hS hL)
theorem z_ladd (C : ZC p R s m args meth c cc nL T own E cl N G A X kc ks s.heap) {x y : Int64} (hd : decode cc pc = .ok (.ladd, 1)) (k : ZW p l e R s m args below meth c Q X E cl A s.heap nL kc ks h (pc + 1) lv (.long (x + y) :: rest)) : ZW p l e R s m args below meth c Q X E cl A s.heap nL kc ks h (pc) lv (.long y :: .long x :: rest) := fun H locs ls hP hD hS hL => lv_ladd C.1.1 C.1.2.1 hd (k H locs ls hP hD hS hL)
theorem z_lsub (C : ZC p R s m args meth c cc nL T own E cl N G A X kc ks s.heap) {x y : Int64} (hd : decode cc pc = .ok (.lsub, 1)) (k : ZW p l e R s m args below meth c Q X E cl A s.heap nL kc ks h (pc + 1) lv (.long (x - y) :: rest)) : ZW p l e R s m args below meth c Q X E cl A s.heap nL kc ks h (pc) lv (.long y :: .long x :: rest) := fun H locs ls hP hD hS hL => lv_lsub C.1.1 C.1.2.1 hd (k H locs ls hP hD hS hL)
theorem z_lmul (C : ZC p R s m args meth c cc nL T own E cl N G A X kc ks s.heap) {x y : Int64} (hd : decode cc pc = .ok (.lmul, 1)) (k : ZW p l e R s m args below meth c Q X E cl A s.heap nL kc ks h (pc + 1) lv (.long (x * y) :: rest)) : ZW p l e R s m args below meth c Q X E cl A s.heap nL kc ks h (pc) lv (.long y :: .long x :: rest) := fun H locs ls hP hD hS hL => lv_lmul C.1.1 C.1.2.1 hd (k H locs ls hP hD hS hL)
theorem z_land (C : ZC p R s m args meth c cc nL T own E cl N G A X kc ks s.heap) {x y : Int64} (hd : decode cc pc = .ok (.land, 1)) (k : ZW p l e R s m args below meth c Q X E cl A s.heap nL kc ks h (pc + 1) lv (.long (x &&& y) :: rest)) : ZW p l e R s m args below meth c Q X E cl A s.heap nL kc ks h (pc) lv (.long y :: .long x :: rest) := fun H locs ls hP hD hS hL => lv_land C.1.1 C.1.2.1 hd (k H locs ls hP hD hS hL)
theorem z_lor (C : ZC p R s m args meth c cc nL T own E cl N G A X kc ks s.heap) {x y : Int64} (hd : decode cc pc = .ok (.lor, 1)) (k : ZW p l e R s m args below meth c Q X E cl A s.heap nL kc ks h (pc + 1) lv (.long (x ||| y) :: rest)) : ZW p l e R s m args below meth c Q X E cl A s.heap nL kc ks h (pc) lv (.long y :: .long x :: rest) := fun H locs ls hP hD hS hL => lv_lor C.1.1 C.1.2.1 hd (k H locs ls hP hD hS hL)
theorem z_lxor (C : ZC p R s m args meth c cc nL T own E cl N G A X kc ks s.heap) {x y : Int64} (hd : decode cc pc = .ok (.lxor, 1)) (k : ZW p l e R s m args below meth c Q X E cl A s.heap nL kc ks h (pc + 1) lv (.long (x ^^^ y) :: rest)) : ZW p l e R s m args below meth c Q X E cl A s.heap nL kc ks h (pc) lv (.long y :: .long x :: rest) := fun H locs ls hP hD hS hL => lv_lxor C.1.1 C.1.2.1 hd (k H locs ls hP hD hS hL)
theorem z_idiv (C : ZC p R s m args meth c cc nL T own E cl N G A X kc ks s.heap) {x y : Int32} (hd : decode cc pc = .ok (.idiv, 1)) (hne : ¬ y = 0) (k : ZW p l e R s m args below meth c Q X E cl A s.heap nL kc ks h (pc + 1) lv (.int (x / y) :: rest)) : ZW p l e R s m args below meth c Q X E cl A s.heap nL kc ks h (pc) lv (.int y :: .int x :: rest) := fun H locs ls hP hD hS hL => lv_idiv C.1.1 C.1.2.1 hd hne (k H locs ls hP hD hS hL)
theorem z_irem (C : ZC p R s m args meth c cc nL T own E cl N G A X kc ks s.heap) {x y : Int32} (hd : decode cc pc = .ok (.irem, 1)) (hne : ¬ y = 0) (k : ZW p l e R s m args below meth c Q X E cl A s.heap nL kc ks h (pc + 1) lv (.int (x - x / y * y) :: rest)) : ZW p l e R s m args below meth c Q X E cl A s.heap nL kc ks h (pc) lv (.int y :: .int x :: rest) := fun H locs ls hP hD hS hL => lv_irem C.1.1 C.1.2.1 hd hne (k H locs ls hP hD hS hL)
theorem z_ldiv (C : ZC p R s m args meth c cc nL T own E cl N G A X kc ks s.heap) {x y : Int64} (hd : decode cc pc = .ok (.ldiv, 1)) (hne : ¬ y = 0) (k : ZW p l e R s m args below meth c Q X E cl A s.heap nL kc ks h (pc + 1) lv (.long (x / y) :: rest)) : ZW p l e R s m args below meth c Q X E cl A s.heap nL kc ks h (pc) lv (.long y :: .long x :: rest) := fun H locs ls hP hD hS hL => lv_ldiv C.1.1 C.1.2.1 hd hne (k H locs ls hP hD hS hL)
theorem z_lrem (C : ZC p R s m args meth c cc nL T own E cl N G A X kc ks s.heap) {x y : Int64} (hd : decode cc pc = .ok (.lrem, 1)) (hne : ¬ y = 0) (k : ZW p l e R s m args below meth c Q X E cl A s.heap nL kc ks h (pc + 1) lv (.long (x - x / y * y) :: rest)) : ZW p l e R s m args below meth c Q X E cl A s.heap nL kc ks h (pc) lv (.long y :: .long x :: rest) := fun H locs ls hP hD hS hL => lv_lrem C.1.1 C.1.2.1 hd hne (k H locs ls hP hD hS hL)
theorem z_ineg (C : ZC p R s m args meth c cc nL T own E cl N G A X kc ks s.heap) {x : Int32} (hd : decode cc pc = .ok (.ineg, 1)) (k : ZW p l e R s m args below meth c Q X E cl A s.heap nL kc ks h (pc + 1) lv (.int (-x) :: rest)) : ZW p l e R s m args below meth c Q X E cl A s.heap nL kc ks h (pc) lv (.int x :: rest) := fun H locs ls hP hD hS hL => lv_ineg C.1.1 C.1.2.1 hd (k H locs ls hP hD hS hL)
theorem z_lneg (C : ZC p R s m args meth c cc nL T own E cl N G A X kc ks s.heap) {x : Int64} (hd : decode cc pc = .ok (.lneg, 1)) (k : ZW p l e R s m args below meth c Q X E cl A s.heap nL kc ks h (pc + 1) lv (.long (-x) :: rest)) : ZW p l e R s m args below meth c Q X E cl A s.heap nL kc ks h (pc) lv (.long x :: rest) := fun H locs ls hP hD hS hL => lv_lneg C.1.1 C.1.2.1 hd (k H locs ls hP hD hS hL)
theorem z_i2l (C : ZC p R s m args meth c cc nL T own E cl N G A X kc ks s.heap) {x : Int32} (hd : decode cc pc = .ok (.i2l, 1)) (k : ZW p l e R s m args below meth c Q X E cl A s.heap nL kc ks h (pc + 1) lv (.long x.toInt64 :: rest)) : ZW p l e R s m args below meth c Q X E cl A s.heap nL kc ks h (pc) lv (.int x :: rest) := fun H locs ls hP hD hS hL => lv_i2l C.1.1 C.1.2.1 hd rfl (k H locs ls hP hD hS hL)
theorem z_l2i (C : ZC p R s m args meth c cc nL T own E cl N G A X kc ks s.heap) {x : Int64} (hd : decode cc pc = .ok (.l2i, 1)) (k : ZW p l e R s m args below meth c Q X E cl A s.heap nL kc ks h (pc + 1) lv (.int x.toInt32 :: rest)) : ZW p l e R s m args below meth c Q X E cl A s.heap nL kc ks h (pc) lv (.long x :: rest) := fun H locs ls hP hD hS hL => lv_l2i C.1.1 C.1.2.1 hd rfl (k H locs ls hP hD hS hL)
theorem z_i2c (C : ZC p R s m args meth c cc nL T own E cl N G A X kc ks s.heap) {x : Int32} (hd : decode cc pc = .ok (.i2c, 1)) (k : ZW p l e R s m args below meth c Q X E cl A s.heap nL kc ks h (pc + 1) lv (.int (x.toUInt32 % 65536).toInt32 :: rest)) : ZW p l e R s m args below meth c Q X E cl A s.heap nL kc ks h (pc) lv (.int x :: rest) := fun H locs ls hP hD hS hL => lv_i2c C.1.1 C.1.2.1 hd rfl (k H locs ls hP hD hS hL)
theorem z_iushr (C : ZC p R s m args meth c cc nL T own E cl N G A X kc ks s.heap) {x y : Int32} (hd : decode cc pc = .ok (.iushr, 1)) (k : ZW p l e R s m args below meth c Q X E cl A s.heap nL kc ks h (pc + 1) lv (.int (x.toUInt32 >>> (y.toUInt32 &&& Int32.toUInt32 31)).toInt32 :: rest)) : ZW p l e R s m args below meth c Q X E cl A s.heap nL kc ks h (pc) lv (.int y :: .int x :: rest) := fun H locs ls hP hD hS hL => lv_iushr C.1.1 C.1.2.1 hd rfl (k H locs ls hP hD hS hL)
theorem z_lcmp (C : ZC p R s m args meth c cc nL T own E cl N G A X kc ks s.heap) {x y : Int64} (hd : decode cc pc = .ok (.lcmp, 1)) (k : ZW p l e R s m args below meth c Q X E cl A s.heap nL kc ks h (pc + 1) lv (.int (lg_cmp x y) :: rest)) : ZW p l e R s m args below meth c Q X E cl A s.heap nL kc ks h (pc) lv (.long y :: .long x :: rest) := fun H locs ls hP hD hS hL => W.lcmp C.1.1 C.1.2.1 hd (k H locs ls hP hD hS hL)
theorem z_dup (C : ZC p R s m args meth c cc nL T own E cl N G A X kc ks s.heap) {va : Value} (hd : decode cc pc = .ok (.dup, 1)) (hva : va.category = 1) (k : ZW p l e R s m args below meth c Q X E cl A s.heap nL kc ks h (pc + 1) lv (va :: va :: rest)) : ZW p l e R s m args below meth c Q X E cl A s.heap nL kc ks h (pc) lv (va :: rest) := fun H locs ls hP hD hS hL => lv_dup C.1.1 C.1.2.1 hd hva (k H locs ls hP hD hS hL)
theorem z_pop (C : ZC p R s m args meth c cc nL T own E cl N G A X kc ks s.heap) {va : Value} (hd : decode cc pc = .ok (.pop, 1)) (hva : va.category = 1) (k : ZW p l e R s m args below meth c Q X E cl A s.heap nL kc ks h (pc + 1) lv (rest)) : ZW p l e R s m args below meth c Q X E cl A s.heap nL kc ks h (pc) lv (va :: rest) := fun H locs ls hP hD hS hL => lv_pop C.1.1 C.1.2.1 hd hva (k H locs ls hP hD hS hL)
theorem z_dup_x1 (C : ZC p R s m args meth c cc nL T own E cl N G A X kc ks s.heap) {va vb : Value} (hd : decode cc pc = .ok (.dup_x1, 1)) (hva : va.category = 1) (hvb : vb.category = 1) (k : ZW p l e R s m args below meth c Q X E cl A s.heap nL kc ks h (pc + 1) lv (va :: vb :: va :: rest)) : ZW p l e R s m args below meth c Q X E cl A s.heap nL kc ks h (pc) lv (va :: vb :: rest) := fun H locs ls hP hD hS hL => lv_dup_x1 C.1.1 C.1.2.1 hd hva hvb (k H locs ls hP hD hS hL)
theorem z_dup_x2 (C : ZC p R s m args meth c cc nL T own E cl N G A X kc ks s.heap) {va vb vd : Value} (hd : decode cc pc = .ok (.dup_x2, 1)) (hva : va.category = 1) (hvb : vb.category = 1) (hvd : vd.category = 1) (k : ZW p l e R s m args below meth c Q X E cl A s.heap nL kc ks h (pc + 1) lv (va :: vb :: vd :: va :: rest)) : ZW p l e R s m args below meth c Q X E cl A s.heap nL kc ks h (pc) lv (va :: vb :: vd :: rest) := fun H locs ls hP hD hS hL => lv_dup_x2 C.1.1 C.1.2.1 hd hva hvb hvd (k H locs ls hP hD hS hL)
theorem z_dup2 (C : ZC p R s m args meth c cc nL T own E cl N G A X kc ks s.heap) {va vb : Value} (hd : decode cc pc = .ok (.dup2, 1)) (hva : va.category = 1) (hvb : vb.category = 1) (k : ZW p l e R s m args below meth c Q X E cl A s.heap nL kc ks h (pc + 1) lv (va :: vb :: va :: vb :: rest)) : ZW p l e R s m args below meth c Q X E cl A s.heap nL kc ks h (pc) lv (va :: vb :: rest) := fun H locs ls hP hD hS hL => lv_dup2_11 C.1.1 C.1.2.1 hd hva hvb (k H locs ls hP hD hS hL)
theorem z_pop2 (C : ZC p R s m args meth c cc nL T own E cl N G A X kc ks s.heap) {va : Value} (hd : decode cc pc = .ok (.pop2, 1)) (hva : va.category = 2) (k : ZW p l e R s m args below meth c Q X E cl A s.heap nL kc ks h (pc + 1) lv (rest)) : ZW p l e R s m args below meth c Q X E cl A s.heap nL kc ks h (pc) lv (va :: rest) := fun H locs ls hP hD hS hL => lv_pop2_2 C.1.1 C.1.2.1 hd hva (k H locs ls hP hD hS hL)
theorem z_icmp_eq (C : ZC p R s m args meth c cc nL T own E cl N G A X kc ks s.heap) {x y : Int32} {off : Int} {tgt : Nat} (hd : decode cc pc = .ok (.if_icmp .eq off, 3)) (ht : (pc : Int) + off = (tgt : Int)) (kt : x = y → ZW p l e R s m args below meth c Q X E cl A s.heap nL kc ks h (tgt) lv (rest)) (kf : ¬ x = y → ZW p l e R s m args below meth c Q X E cl A s.heap nL kc ks h (pc + 3) lv (rest)) : ZW p l e R s m args below meth c Q X E cl A s.heap nL kc ks h (pc) lv (.int y :: .int x :: rest) := fun H locs ls hP hD hS hL => lv_icmp_eq C.1.1 C.1.2.1 hd ht (fun q => kt q H locs ls hP hD hS hL) (fun q => kf q H locs ls hP hD hS hL)
theorem z_if_eq (C : ZC p R s m args meth c cc nL T own E cl N G A X kc ks s.heap) {x : Int32} {off : Int} {tgt : Nat} (hd : decode cc pc = .ok (.ifCond .eq off, 3)) (ht : (pc : Int) + off = (tgt : Int)) (kt : x = 0 → ZW p l e R s m args below meth c Q X E cl A s.heap nL kc ks h (tgt) lv (rest)) (kf : ¬ x = 0 → ZW p l e R s m args below meth c Q X E cl A s.heap nL kc ks h (pc + 3) lv (rest)) : ZW p l e R s m args below meth c Q X E cl A s.heap nL kc ks h (pc) lv (.int x :: rest) := fun H locs ls hP hD hS hL => lv_if_eq C.1.1 C.1.2.1 hd ht (fun q => kt q H locs ls hP hD hS hL) (fun q => kf q H locs ls hP hD hS hL)
theorem z_icmp_ne (C : ZC p R s m args meth c cc nL T own E cl N G A X kc ks s.heap) {x y : Int32} {off : Int} {tgt : Nat} (hd : decode cc pc = .ok (.if_icmp .ne off, 3)) (ht : (pc : Int) + off = (tgt : Int)) (kt : ¬ x = y → ZW p l e R s m args below meth c Q X E cl A s.heap nL kc ks h (tgt) lv (rest)) (kf : x = y → ZW p l e R s m args below meth c Q X E cl A s.heap nL kc ks h (pc + 3) lv (rest)) : ZW p l e R s m args below meth c Q X E cl A s.heap nL kc ks h (pc) lv (.int y :: .int x :: rest) := fun H locs ls hP hD hS hL => lv_icmp_ne C.1.1 C.1.2.1 hd ht (fun q => kt q H locs ls hP hD hS hL) (fun q => kf q H locs ls hP hD hS hL)
theorem z_if_ne (C : ZC p R s m args meth c cc nL T own E cl N G A X kc ks s.heap) {x : Int32} {off : Int} {tgt : Nat} (hd : decode cc pc = .ok (.ifCond .ne off, 3)) (ht : (pc : Int) + off = (tgt : Int)) (kt : ¬ x = 0 → ZW p l e R s m args below meth c Q X E cl A s.heap nL kc ks h (tgt) lv (rest)) (kf : x = 0 → ZW p l e R s m args below meth c Q X E cl A s.heap nL kc ks h (pc + 3) lv (rest)) : ZW p l e R s m args below meth c Q X E cl A s.heap nL kc ks h (pc) lv (.int x :: rest) := fun H locs ls hP hD hS hL => lv_if_ne C.1.1 C.1.2.1 hd ht (fun q => kt q H locs ls hP hD hS hL) (fun q => kf q H locs ls hP hD hS hL)
theorem z_icmp_lt (C : ZC p R s m args meth c cc nL T own E cl N G A X kc ks s.heap) {x y : Int32} {off : Int} {tgt : Nat} (hd : decode cc pc = .ok (.if_icmp .lt off, 3)) (ht : (pc : Int) + off = (tgt : Int)) (kt : x < y → ZW p l e R s m args below meth c Q X E cl A s.heap nL kc ks h (tgt) lv (rest)) (kf : ¬ x < y → ZW p l e R s m args below meth c Q X E cl A s.heap nL kc ks h (pc + 3) lv (rest)) : ZW p l e R s m args below meth c Q X E cl A s.heap nL kc ks h (pc) lv (.int y :: .int x :: rest) := fun H locs ls hP hD hS hL => lv_icmp_lt C.1.1 C.1.2.1 hd ht (fun q => kt q H locs ls hP hD hS hL) (fun q => kf q H locs ls hP hD hS hL)
theorem z_if_lt (C : ZC p R s m args meth c cc nL T own E cl N G A X kc ks s.heap) {x : Int32} {off : Int} {tgt : Nat} (hd : decode cc pc = .ok (.ifCond .lt off, 3)) (ht : (pc : Int) + off = (tgt : Int)) (kt : x < 0 → ZW p l e R s m args below meth c Q X E cl A s.heap nL kc ks h (tgt) lv (rest)) (kf : ¬ x < 0 → ZW p l e R s m args below meth c Q X E cl A s.heap nL kc ks h (pc + 3) lv (rest)) : ZW p l e R s m args below meth c Q X E cl A s.heap nL kc ks h (pc) lv (.int x :: rest) := fun H locs ls hP hD hS hL => lv_if_lt C.1.1 C.1.2.1 hd ht (fun q => kt q H locs ls hP hD hS hL) (fun q => kf q H locs ls hP hD hS hL)
theorem z_icmp_ge (C : ZC p R s m args meth c cc nL T own E cl N G A X kc ks s.heap) {x y : Int32} {off : Int} {tgt : Nat} (hd : decode cc pc = .ok (.if_icmp .ge off, 3)) (ht : (pc : Int) + off = (tgt : Int)) (kt : y ≤ x → ZW p l e R s m args below meth c Q X E cl A s.heap nL kc ks h (tgt) lv (rest)) (kf : ¬ y ≤ x → ZW p l e R s m args below meth c Q X E cl A s.heap nL kc ks h (pc + 3) lv (rest)) : ZW p l e R s m args below meth c Q X E cl A s.heap nL kc ks h (pc) lv (.int y :: .int x :: rest) := fun H locs ls hP hD hS hL => lv_icmp_ge C.1.1 C.1.2.1 hd ht (fun q => kt q H locs ls hP hD hS hL) (fun q => kf q H locs ls hP hD hS hL)
theorem z_if_ge (C : ZC p R s m args meth c cc nL T own E cl N G A X kc ks s.heap) {x : Int32} {off : Int} {tgt : Nat} (hd : decode cc pc = .ok (.ifCond .ge off, 3)) (ht : (pc : Int) + off = (tgt : Int)) (kt : 0 ≤ x → ZW p l e R s m args below meth c Q X E cl A s.heap nL kc ks h (tgt) lv (rest)) (kf : ¬ 0 ≤ x → ZW p l e R s m args below meth c Q X E cl A s.heap nL kc ks h (pc + 3) lv (rest)) : ZW p l e R s m args below meth c Q X E cl A s.heap nL kc ks h (pc) lv (.int x :: rest) := fun H locs ls hP hD hS hL => lv_if_ge C.1.1 C.1.2.1 hd ht (fun q => kt q H locs ls hP hD hS hL) (fun q => kf q H locs ls hP hD hS hL)
theorem z_icmp_gt (C : ZC p R s m args meth c cc nL T own E cl N G A X kc ks s.heap) {x y : Int32} {off : Int} {tgt : Nat} (hd : decode cc pc = .ok (.if_icmp .gt off, 3)) (ht : (pc : Int) + off = (tgt : Int)) (kt : y < x → ZW p l e R s m args below meth c Q X E cl A s.heap nL kc ks h (tgt) lv (rest)) (kf : ¬ y < x → ZW p l e R s m args below meth c Q X E cl A s.heap nL kc ks h (pc + 3) lv (rest)) : ZW p l e R s m args below meth c Q X E cl A s.heap nL kc ks h (pc) lv (.int y :: .int x :: rest) := fun H locs ls hP hD hS hL => lv_icmp_gt C.1.1 C.1.2.1 hd ht (fun q => kt q H locs ls hP hD hS hL) (fun q => kf q H locs ls hP hD hS hL)
theorem z_if_gt (C : ZC p R s m args meth c cc nL T own E cl N G A X kc ks s.heap) {x : Int32} {off : Int} {tgt : Nat} (hd : decode cc pc = .ok (.ifCond .gt off, 3)) (ht : (pc : Int) + off = (tgt : Int)) (kt : 0 < x → ZW p l e R s m args below meth c Q X E cl A s.heap nL kc ks h (tgt) lv (rest)) (kf : ¬ 0 < x → ZW p l e R s m args below meth c Q X E cl A s.heap nL kc ks h (pc + 3) lv (rest)) : ZW p l e R s m args below meth c Q X E cl A s.heap nL kc ks h (pc) lv (.int x :: rest) := fun H locs ls hP hD hS hL => lv_if_gt C.1.1 C.1.2.1 hd ht (fun q => kt q H locs ls hP hD hS hL) (fun q => kf q H locs ls hP hD hS hL)
theorem z_icmp_le (C : ZC p R s m args meth c cc nL T own E cl N G A X kc ks s.heap) {x y : Int32} {off : Int} {tgt : Nat} (hd : decode cc pc = .ok (.if_icmp .le off, 3)) (ht : (pc : Int) + off = (tgt : Int)) (kt : x ≤ y → ZW p l e R s m args below meth c Q X E cl A s.heap nL kc ks h (tgt) lv (rest)) (kf : ¬ x ≤ y → ZW p l e R s m args below meth c Q X E cl A s.heap nL kc ks h (pc + 3) lv (rest)) : ZW p l e R s m args below meth c Q X E cl A s.heap nL kc ks h (pc) lv (.int y :: .int x :: rest) := fun H locs ls hP hD hS hL => lv_icmp_le C.1.1 C.1.2.1 hd ht (fun q => kt q H locs ls hP hD hS hL) (fun q => kf q H locs ls hP hD hS hL)
theorem z_if_le (C : ZC p R s m args meth c cc nL T own E cl N G A X kc ks s.heap) {x : Int32} {off : Int} {tgt : Nat} (hd : decode cc pc = .ok (.ifCond .le off, 3)) (ht : (pc : Int) + off = (tgt : Int)) (kt : x ≤ 0 → ZW p l e R s m args below meth c Q X E cl A s.heap nL kc ks h (tgt) lv (rest)) (kf : ¬ x ≤ 0 → ZW p l e R s m args below meth c Q X E cl A s.heap nL kc ks h (pc + 3) lv (rest)) : ZW p l e R s m args below meth c Q X E cl A s.heap nL kc ks h (pc) lv (.int x :: rest) := fun H locs ls hP hD hS hL => lv_if_le C.1.1 C.1.2.1 hd ht (fun q => kt q H locs ls hP hD hS hL) (fun q => kf q H locs ls hP hD hS hL)
theorem z_goto (C : ZC p R s m args meth c cc nL T own E cl N G A X kc ks s.heap) {off : Int} {tgt : Nat} (hd : decode cc pc = .ok (.goto off, 3)) (ht : (pc : Int) + off = (tgt : Int)) (k : ZW p l e R s m args below meth c Q X E cl A s.heap nL kc ks h (tgt) lv (rest)) : ZW p l e R s m args below meth c Q X E cl A s.heap nL kc ks h (pc) lv (rest) := fun H locs ls hP hD hS hL => lv_goto C.1.1 C.1.2.1 hd ht (k H locs ls hP hD hS hL)
theorem z_lookup (C : ZC p R s m args meth c cc nL T own E cl N G A X kc ks s.heap) {dflt : Int} {ps : Array (Int × Int)} {len : Nat} {x : Int32} {off : Int} {tgt : Nat} (hd : decode cc pc = .ok (.lookupswitch dflt ps, len)) (hp : (ps.toList.zip (ps.toList.drop 1)).all (fun (a, next) => a.1 < next.1) = true) (ho : Op.lookupswitch.offset ps.toList dflt x.toInt = off) (ht : (pc : Int) + off = (tgt : Int)) (k : ZW p l e R s m args below meth c Q X E cl A s.heap nL kc ks h (tgt) lv (rest)) : ZW p l e R s m args below meth c Q X E cl A s.heap nL kc ks h (pc) lv (.int x :: rest) := fun H locs ls hP hD hS hL => lv_lookup C.1.1 C.1.2.1 hd hp ho ht (k H locs ls hP hD hS hL)
theorem z_tabOut (C : ZC p R s m args meth c cc nL T own E cl N G A X kc ks s.heap) {dflt lo hi : Int} {offs : Array Int} {len : Nat} {x : Int32} {tgt : Nat} (hd : decode cc pc = .ok (.tableswitch dflt lo hi offs, len)) (hx : x.toInt < lo ∨ hi < x.toInt) (ht : (pc : Int) + dflt = (tgt : Int)) (k : ZW p l e R s m args below meth c Q X E cl A s.heap nL kc ks h (tgt) lv (rest)) : ZW p l e R s m args below meth c Q X E cl A s.heap nL kc ks h (pc) lv (.int x :: rest) := fun H locs ls hP hD hS hL => lv_tableOut C.1.1 C.1.2.1 hd hx ht (k H locs ls hP hD hS hL)
theorem z_tabIn (C : ZC p R s m args meth c cc nL T own E cl N G A X kc ks s.heap) {dflt lo hi : Int} {offs : Array Int} {len : Nat} {x : Int32} {off : Int} {tgt : Nat} (hd : decode cc pc = .ok (.tableswitch dflt lo hi offs, len)) (h1 : ¬ x.toInt < lo) (h2 : ¬ hi < x.toInt) (ho : offs[(x.toInt - lo).toNat]? = some off) (ht : (pc : Int) + off = (tgt : Int)) (k : ZW p l e R s m args below meth c Q X E cl A s.heap nL kc ks h (tgt) lv (rest)) : ZW p l e R s m args below meth c Q X E cl A s.heap nL kc ks h (pc) lv (.int x :: rest) := fun H locs ls hP hD hS hL => lv_tableIn C.1.1 C.1.2.1 hd h1 h2 ho ht (k H locs ls hP hD hS hL)
theorem z_tcase (C : ZC p R s m args meth c cc nL T own E cl N G A X kc ks s.heap) {dflt lo hi off : Int} {offs : Array Int} {len tgt : Nat} {x : Int32} (v : Int32) (hd : decode cc pc = .ok (.tableswitch dflt lo hi offs, len)) (h1 : ¬ v.toInt < lo) (h2 : ¬ hi < v.toInt) (ho : offs[(v.toInt - lo).toNat]? = some off) (ht : (pc : Int) + off = (tgt : Int)) (kt : x = v → ZW p l e R s m args below meth c Q X E cl A s.heap nL kc ks h (tgt) lv (rest)) (kf : ¬ x = v → ZW p l e R s m args below meth c Q X E cl A s.heap nL kc ks h (pc) lv (.int x :: rest)) : ZW p l e R s m args below meth c Q X E cl A s.heap nL kc ks h (pc) lv (.int x :: rest) := by
  by_cases q : x = v
  · subst q
    exact z_tabIn C hd h1 h2 ho ht (kt rfl)
  · exact kf q
theorem z_lcase (C : ZC p R s m args meth c cc nL T own E cl N G A X kc ks s.heap) {dflt off : Int} {ps : Array (Int × Int)} {len tgt : Nat} {x : Int32} (v : Int32) (hd : decode cc pc = .ok (.lookupswitch dflt ps, len)) (hp : (ps.toList.zip (ps.toList.drop 1)).all (fun (a, next) => a.1 < next.1) = true) (ho : Op.lookupswitch.offset ps.toList dflt v.toInt = off) (ht : (pc : Int) + off = (tgt : Int)) (kt : x = v → ZW p l e R s m args below meth c Q X E cl A s.heap nL kc ks h (tgt) lv (rest)) (kf : ¬ x = v → ZW p l e R s m args below meth c Q X E cl A s.heap nL kc ks h (pc) lv (.int x :: rest)) : ZW p l e R s m args below meth c Q X E cl A s.heap nL kc ks h (pc) lv (.int x :: rest) := by
  by_cases q : x = v
  · subst q
    exact z_lookup C hd hp ho ht (kt rfl)
  · exact kf q
theorem z_lv {lv2 : List (Option Value)} (hl : lv = lv2) {st : List Value} (k : ZW p l e R s m args below meth c Q X E cl A s.heap nL kc ks h (pc) lv2 (st)) : ZW p l e R s m args below meth c Q X E cl A s.heap nL kc ks h (pc) lv (st) := by
  subst hl
  exact k
theorem z_sub {lv2 : List (Option Value)} (hl : ∀ (i : Nat) (v : Value), lv2[i]? = some (some v) → lv[i]? = some (some v)) {st : List Value} (k : ZW p l e R s m args below meth c Q X E cl A s.heap nL kc ks h (pc) lv2 (st)) : ZW p l e R s m args below meth c Q X E cl A s.heap nL kc ks h (pc) lv (st) := fun H locs ls hP hD hS hL => k H locs ls hP hD hS ⟨hL.1, hL.2.1, fun i v hv => hL.2.2 i v (hl i v hv)⟩
theorem z_h {h2 : zH} (hh : h = h2) {st : List Value} (k : ZW p l e R s m args below meth c Q X E cl A s.heap nL kc ks h2 (pc) lv (st)) : ZW p l e R s m args below meth c Q X E cl A s.heap nL kc ks h (pc) lv (st) := by
  subst hh
  exact k
theorem z_st {st st2 : List Value} (hh : st = st2) (k : ZW p l e R s m args below meth c Q X E cl A s.heap nL kc ks h (pc) lv (st2)) : ZW p l e R s m args below meth c Q X E cl A s.heap nL kc ks h (pc) lv (st) := by
  subst hh
  exact k
theorem z_get (C : ZC p R s m args meth c cc nL T own E cl N G A X kc ks s.heap) {k ci i j n : Nat} {K : String} {F : u_T} {q : Nat × Nat} {v : Value} (hk : k < X.1) (hX : X.2.1 k = (0, ci)) (hc : cl[ci]? = some (K, F, n)) (hin : ∀ w ∈ u_ws K F n, w ∈ T) (hj : j < n) (hw : Cond.fieldLink own i (F j).1 (F j).2.1 (F j).2.2.1 ∈ T) (hq : (X.2.2 ci)[j]? = some q) (hv : zv E h k j q = v) (hd : decode cc pc = .ok (.getfield i, 3)) (kk : ZW p l e R s m args below meth c Q X E cl A s.heap nL kc ks h (pc + 3) lv (v :: rest)) : ZW p l e R s m args below meth c Q X E cl A s.heap nL kc ks h (pc) lv (.ref (E.2.2.1 k) :: rest) := by
  intro H locs ls hP hD hS hL
  subst hv
  exact va_get (D := E.1) C.1.1 C.1.2.1 C.1.2.2.2.2 hin C.1.2.2.2.1 C.2.1 hP k (by rw [zw_at hk, ze_obj hX]) hc j hj (C.1.2.2.2.2 _ hw) (fun _ h9 => h9) (zf_at hq) hd (kk H locs ls hP hD hS hL)
theorem z_getI (C : ZC p R s m args meth c cc nL T own E cl N G A X kc ks s.heap) {k ci i j n a : Nat} {K : String} {F : u_T} (hk : k < X.1) (hX : X.2.1 k = (0, ci)) (hc : cl[ci]? = some (K, F, n)) (hin : ∀ w ∈ u_ws K F n, w ∈ T) (hj : j < n) (hw : Cond.fieldLink own i (F j).1 (F j).2.1 (F j).2.2.1 ∈ T) (hq : (X.2.2 ci)[j]? = some (0, a)) (hd : decode cc pc = .ok (.getfield i, 3)) (kk : ZW p l e R s m args below meth c Q X E cl A s.heap nL kc ks h (pc + 3) lv (.int (h.1 k j) :: rest)) : ZW p l e R s m args below meth c Q X E cl A s.heap nL kc ks h (pc) lv (.ref (E.2.2.1 k) :: rest) :=
  z_get C hk hX hc hin hj hw hq rfl hd kk
theorem z_getL (C : ZC p R s m args meth c cc nL T own E cl N G A X kc ks s.heap) {k ci i j n a : Nat} {K : String} {F : u_T} (hk : k < X.1) (hX : X.2.1 k = (0, ci)) (hc : cl[ci]? = some (K, F, n)) (hin : ∀ w ∈ u_ws K F n, w ∈ T) (hj : j < n) (hw : Cond.fieldLink own i (F j).1 (F j).2.1 (F j).2.2.1 ∈ T) (hq : (X.2.2 ci)[j]? = some (1, a)) (hd : decode cc pc = .ok (.getfield i, 3)) (kk : ZW p l e R s m args below meth c Q X E cl A s.heap nL kc ks h (pc + 3) lv (.long (h.2.1 k j) :: rest)) : ZW p l e R s m args below meth c Q X E cl A s.heap nL kc ks h (pc) lv (.ref (E.2.2.1 k) :: rest) :=
  z_get C hk hX hc hin hj hw hq rfl hd kk
theorem z_getK (C : ZC p R s m args meth c cc nL T own E cl N G A X kc ks s.heap) {k ci i j n a : Nat} {K : String} {F : u_T} (hk : k < X.1) (hX : X.2.1 k = (0, ci)) (hc : cl[ci]? = some (K, F, n)) (hin : ∀ w ∈ u_ws K F n, w ∈ T) (hj : j < n) (hw : Cond.fieldLink own i (F j).1 (F j).2.1 (F j).2.2.1 ∈ T) (hq : (X.2.2 ci)[j]? = some (2, a)) (hd : decode cc pc = .ok (.getfield i, 3)) (kk : ZW p l e R s m args below meth c Q X E cl A s.heap nL kc ks h (pc + 3) lv (.ref (E.2.2.1 (k + a)) :: rest)) : ZW p l e R s m args below meth c Q X E cl A s.heap nL kc ks h (pc) lv (.ref (E.2.2.1 k) :: rest) :=
  z_get C hk hX hc hin hj hw hq rfl hd kk
theorem z_getS (C : ZC p R s m args meth c cc nL T own E cl N G A X kc ks s.heap) {k ci i j n a : Nat} {K : String} {F : u_T} (hk : k < X.1) (hX : X.2.1 k = (0, ci)) (hc : cl[ci]? = some (K, F, n)) (hin : ∀ w ∈ u_ws K F n, w ∈ T) (hj : j < n) (hw : Cond.fieldLink own i (F j).1 (F j).2.1 (F j).2.2.1 ∈ T) (hq : (X.2.2 ci)[j]? = some (3, a)) (hd : decode cc pc = .ok (.getfield i, 3)) (kk : ZW p l e R s m args below meth c Q X E cl A s.heap nL kc ks h (pc + 3) lv (.ref (E.2.2.1 a) :: rest)) : ZW p l e R s m args below meth c Q X E cl A s.heap nL kc ks h (pc) lv (.ref (E.2.2.1 k) :: rest) :=
  z_get C hk hX hc hin hj hw hq rfl hd kk
theorem z_getR (C : ZC p R s m args meth c cc nL T own E cl N G A X kc ks s.heap) {k ci i j n a : Nat} {K : String} {F : u_T} (hk : k < X.1) (hX : X.2.1 k = (0, ci)) (hc : cl[ci]? = some (K, F, n)) (hin : ∀ w ∈ u_ws K F n, w ∈ T) (hj : j < n) (hw : Cond.fieldLink own i (F j).1 (F j).2.1 (F j).2.2.1 ∈ T) (hq : (X.2.2 ci)[j]? = some (4, a)) (hd : decode cc pc = .ok (.getfield i, 3)) (kk : ZW p l e R s m args below meth c Q X E cl A s.heap nL kc ks h (pc + 3) lv (.ref (E.2.2.1 (h.2.2 k j)) :: rest)) : ZW p l e R s m args below meth c Q X E cl A s.heap nL kc ks h (pc) lv (.ref (E.2.2.1 k) :: rest) :=
  z_get C hk hX hc hin hj hw hq rfl hd kk
theorem z_putI (C : ZC p R s m args meth c cc nL T own E cl N G A X kc ks s.heap) {k ci i j n a : Nat} {K : String} {F : u_T} {x : Int32} (tf : Nat → FieldType) (hk : k < X.1) (hX : X.2.1 k = (0, ci)) (hc : cl[ci]? = some (K, F, n)) (hin : ∀ w ∈ u_ws K F n, w ∈ T) (hty : ∀ k, k < n → parseFieldDescriptor (F k).2.2.1 = some (tf k)) (hnm : ∀ a, a < n → ∀ b, b < n → a ≠ b → (F a).2.1 ≠ (F b).2.1) (hj : j < n) (hw : Cond.fieldLink own i (F j).1 (F j).2.1 (F j).2.2.1 ∈ T) (hfin : (F j).2.2.2 = false) (hdesc : parseFieldDescriptor (F j).2.2.1 = some .int) (hq : (X.2.2 ci)[j]? = some (0, a)) (hd : decode cc pc = .ok (.putfield i, 3)) (kk : ∀ h2 : zH, h2 = zi h k j x → ZW p l e R s m args below meth c Q X E cl A s.heap nL kc ks h2 (pc + 3) lv (rest)) : ZW p l e R s m args below meth c Q X E cl A s.heap nL kc ks h (pc) lv (.int x :: .ref (E.2.2.1 k) :: rest) := by
  intro H locs ls hP hD hS hL
  have hl : j < (zf E h k (X.2.2 ci)).length := by rw [zf_len]; exact (List.getElem?_eq_some_iff.mp hq).1
  refine va_put (D := E.1) C.1.1 C.1.2.1 C.1.2.2.2.2 hin tf hty hnm C.1.2.2.2.1 C.2.1 hP hD hS k (by rw [zw_at hk, ze_obj hX]) hc j hj (C.1.2.2.2.2 _ hw) (fun _ h9 => h9) hfin hdesc rfl rfl hl hd (fun H1 locs1 hP1 hD1 hS1 => ?_)
  rw [zw_fi hk hX hq] at hP1 hD1
  exact kk _ rfl H1 locs1 ls hP1 hD1 hS1 hL
theorem z_putL (C : ZC p R s m args meth c cc nL T own E cl N G A X kc ks s.heap) {k ci i j n a : Nat} {K : String} {F : u_T} {x : Int64} (tf : Nat → FieldType) (hk : k < X.1) (hX : X.2.1 k = (0, ci)) (hc : cl[ci]? = some (K, F, n)) (hin : ∀ w ∈ u_ws K F n, w ∈ T) (hty : ∀ k, k < n → parseFieldDescriptor (F k).2.2.1 = some (tf k)) (hnm : ∀ a, a < n → ∀ b, b < n → a ≠ b → (F a).2.1 ≠ (F b).2.1) (hj : j < n) (hw : Cond.fieldLink own i (F j).1 (F j).2.1 (F j).2.2.1 ∈ T) (hfin : (F j).2.2.2 = false) (hdesc : parseFieldDescriptor (F j).2.2.1 = some .long) (hq : (X.2.2 ci)[j]? = some (1, a)) (hd : decode cc pc = .ok (.putfield i, 3)) (kk : ∀ h2 : zH, h2 = zl h k j x → ZW p l e R s m args below meth c Q X E cl A s.heap nL kc ks h2 (pc + 3) lv (rest)) : ZW p l e R s m args below meth c Q X E cl A s.heap nL kc ks h (pc) lv (.long x :: .ref (E.2.2.1 k) :: rest) := by
  intro H locs ls hP hD hS hL
  have hl : j < (zf E h k (X.2.2 ci)).length := by rw [zf_len]; exact (List.getElem?_eq_some_iff.mp hq).1
  refine va_put (D := E.1) C.1.1 C.1.2.1 C.1.2.2.2.2 hin tf hty hnm C.1.2.2.2.1 C.2.1 hP hD hS k (by rw [zw_at hk, ze_obj hX]) hc j hj (C.1.2.2.2.2 _ hw) (fun _ h9 => h9) hfin hdesc rfl rfl hl hd (fun H1 locs1 hP1 hD1 hS1 => ?_)
  rw [zw_fl hk hX hq] at hP1 hD1
  exact kk _ rfl H1 locs1 ls hP1 hD1 hS1 hL
theorem z_putR (C : ZC p R s m args meth c cc nL T own E cl N G A X kc ks s.heap) {k ci i j n a : Nat} {K : String} {F : u_T} {x : Nat} (tf : Nat → FieldType) (hk : k < X.1) (hX : X.2.1 k = (0, ci)) (hc : cl[ci]? = some (K, F, n)) (hin : ∀ w ∈ u_ws K F n, w ∈ T) (hty : ∀ k, k < n → parseFieldDescriptor (F k).2.2.1 = some (tf k)) (hnm : ∀ a, a < n → ∀ b, b < n → a ≠ b → (F a).2.1 ≠ (F b).2.1) (hj : j < n) (hw : Cond.fieldLink own i (F j).1 (F j).2.1 (F j).2.2.1 ∈ T) (hfin : (F j).2.2.2 = false) {ty : FieldType} (hdesc : parseFieldDescriptor (F j).2.2.1 = some ty) (hnar : ∀ a : Nat, narrow ty (.ref a) = .ref a) (hfit : ∀ a : Nat, fits ty (.ref a) = true) (hq : (X.2.2 ci)[j]? = some (4, a)) (hd : decode cc pc = .ok (.putfield i, 3)) (kk : ∀ h2 : zH, h2 = zr h k j x → ZW p l e R s m args below meth c Q X E cl A s.heap nL kc ks h2 (pc + 3) lv (rest)) : ZW p l e R s m args below meth c Q X E cl A s.heap nL kc ks h (pc) lv (.ref (E.2.2.1 x) :: .ref (E.2.2.1 k) :: rest) := by
  intro H locs ls hP hD hS hL
  have hl : j < (zf E h k (X.2.2 ci)).length := by rw [zf_len]; exact (List.getElem?_eq_some_iff.mp hq).1
  refine va_put (D := E.1) C.1.1 C.1.2.1 C.1.2.2.2.2 hin tf hty hnm C.1.2.2.2.1 C.2.1 hP hD hS k (by rw [zw_at hk, ze_obj hX]) hc j hj (C.1.2.2.2.2 _ hw) (fun _ h9 => h9) hfin hdesc (hnar _) (hfit _) hl hd (fun H1 locs1 hP1 hD1 hS1 => ?_)
  rw [zw_fr hk hX hq] at hP1 hD1
  exact kk _ rfl H1 locs1 ls hP1 hD1 hS1 hL
theorem z_getN (C : ZC p R s m args meth c cc nL T own E cl N G A X kc ks s.heap) {k ci i j n : Nat} {host : String} {K : String} {F : u_T} {q : Nat × Nat} {v : Value} (hk : k < X.1) (hX : X.2.1 k = (0, ci)) (hc : cl[ci]? = some (K, F, n)) (hin : ∀ w ∈ u_ws K F n, w ∈ T) (hj : j < n) (hw : Cond.fieldLinkNest own i (F j).1 (F j).2.1 (F j).2.2.1 host ∈ N) (hq : (X.2.2 ci)[j]? = some q) (hv : zv E h k j q = v) (hd : decode cc pc = .ok (.getfield i, 3)) (kk : ZW p l e R s m args below meth c Q X E cl A s.heap nL kc ks h (pc + 3) lv (v :: rest)) : ZW p l e R s m args below meth c Q X E cl A s.heap nL kc ks h (pc) lv (.ref (E.2.2.1 k) :: rest) := by
  intro H locs ls hP hD hS hL
  subst hv
  exact va_getN (D := E.1) C.1.1 C.1.2.1 C.1.2.2.2.2 hin C.1.2.2.2.1 C.2.1 hP k (by rw [zw_at hk, ze_obj hX]) hc j hj (va_Nw.use rfl (C.2.2.1 _ hw)) (fun _ h9 => h9) (zf_at hq) hd (kk H locs ls hP hD hS hL)
theorem z_getIN (C : ZC p R s m args meth c cc nL T own E cl N G A X kc ks s.heap) {k ci i j n a : Nat} {host : String} {K : String} {F : u_T} (hk : k < X.1) (hX : X.2.1 k = (0, ci)) (hc : cl[ci]? = some (K, F, n)) (hin : ∀ w ∈ u_ws K F n, w ∈ T) (hj : j < n) (hw : Cond.fieldLinkNest own i (F j).1 (F j).2.1 (F j).2.2.1 host ∈ N) (hq : (X.2.2 ci)[j]? = some (0, a)) (hd : decode cc pc = .ok (.getfield i, 3)) (kk : ZW p l e R s m args below meth c Q X E cl A s.heap nL kc ks h (pc + 3) lv (.int (h.1 k j) :: rest)) : ZW p l e R s m args below meth c Q X E cl A s.heap nL kc ks h (pc) lv (.ref (E.2.2.1 k) :: rest) :=
  z_getN C hk hX hc hin hj hw hq rfl hd kk
theorem z_getLN (C : ZC p R s m args meth c cc nL T own E cl N G A X kc ks s.heap) {k ci i j n a : Nat} {host : String} {K : String} {F : u_T} (hk : k < X.1) (hX : X.2.1 k = (0, ci)) (hc : cl[ci]? = some (K, F, n)) (hin : ∀ w ∈ u_ws K F n, w ∈ T) (hj : j < n) (hw : Cond.fieldLinkNest own i (F j).1 (F j).2.1 (F j).2.2.1 host ∈ N) (hq : (X.2.2 ci)[j]? = some (1, a)) (hd : decode cc pc = .ok (.getfield i, 3)) (kk : ZW p l e R s m args below meth c Q X E cl A s.heap nL kc ks h (pc + 3) lv (.long (h.2.1 k j) :: rest)) : ZW p l e R s m args below meth c Q X E cl A s.heap nL kc ks h (pc) lv (.ref (E.2.2.1 k) :: rest) :=
  z_getN C hk hX hc hin hj hw hq rfl hd kk
theorem z_getKN (C : ZC p R s m args meth c cc nL T own E cl N G A X kc ks s.heap) {k ci i j n a : Nat} {host : String} {K : String} {F : u_T} (hk : k < X.1) (hX : X.2.1 k = (0, ci)) (hc : cl[ci]? = some (K, F, n)) (hin : ∀ w ∈ u_ws K F n, w ∈ T) (hj : j < n) (hw : Cond.fieldLinkNest own i (F j).1 (F j).2.1 (F j).2.2.1 host ∈ N) (hq : (X.2.2 ci)[j]? = some (2, a)) (hd : decode cc pc = .ok (.getfield i, 3)) (kk : ZW p l e R s m args below meth c Q X E cl A s.heap nL kc ks h (pc + 3) lv (.ref (E.2.2.1 (k + a)) :: rest)) : ZW p l e R s m args below meth c Q X E cl A s.heap nL kc ks h (pc) lv (.ref (E.2.2.1 k) :: rest) :=
  z_getN C hk hX hc hin hj hw hq rfl hd kk
theorem z_getSN (C : ZC p R s m args meth c cc nL T own E cl N G A X kc ks s.heap) {k ci i j n a : Nat} {host : String} {K : String} {F : u_T} (hk : k < X.1) (hX : X.2.1 k = (0, ci)) (hc : cl[ci]? = some (K, F, n)) (hin : ∀ w ∈ u_ws K F n, w ∈ T) (hj : j < n) (hw : Cond.fieldLinkNest own i (F j).1 (F j).2.1 (F j).2.2.1 host ∈ N) (hq : (X.2.2 ci)[j]? = some (3, a)) (hd : decode cc pc = .ok (.getfield i, 3)) (kk : ZW p l e R s m args below meth c Q X E cl A s.heap nL kc ks h (pc + 3) lv (.ref (E.2.2.1 a) :: rest)) : ZW p l e R s m args below meth c Q X E cl A s.heap nL kc ks h (pc) lv (.ref (E.2.2.1 k) :: rest) :=
  z_getN C hk hX hc hin hj hw hq rfl hd kk
theorem z_getRN (C : ZC p R s m args meth c cc nL T own E cl N G A X kc ks s.heap) {k ci i j n a : Nat} {host : String} {K : String} {F : u_T} (hk : k < X.1) (hX : X.2.1 k = (0, ci)) (hc : cl[ci]? = some (K, F, n)) (hin : ∀ w ∈ u_ws K F n, w ∈ T) (hj : j < n) (hw : Cond.fieldLinkNest own i (F j).1 (F j).2.1 (F j).2.2.1 host ∈ N) (hq : (X.2.2 ci)[j]? = some (4, a)) (hd : decode cc pc = .ok (.getfield i, 3)) (kk : ZW p l e R s m args below meth c Q X E cl A s.heap nL kc ks h (pc + 3) lv (.ref (E.2.2.1 (h.2.2 k j)) :: rest)) : ZW p l e R s m args below meth c Q X E cl A s.heap nL kc ks h (pc) lv (.ref (E.2.2.1 k) :: rest) :=
  z_getN C hk hX hc hin hj hw hq rfl hd kk
theorem z_putIN (C : ZC p R s m args meth c cc nL T own E cl N G A X kc ks s.heap) {k ci i j n a : Nat} {host : String} {K : String} {F : u_T} {x : Int32} (tf : Nat → FieldType) (hk : k < X.1) (hX : X.2.1 k = (0, ci)) (hc : cl[ci]? = some (K, F, n)) (hin : ∀ w ∈ u_ws K F n, w ∈ T) (hty : ∀ k, k < n → parseFieldDescriptor (F k).2.2.1 = some (tf k)) (hnm : ∀ a, a < n → ∀ b, b < n → a ≠ b → (F a).2.1 ≠ (F b).2.1) (hj : j < n) (hw : Cond.fieldLinkNest own i (F j).1 (F j).2.1 (F j).2.2.1 host ∈ N) (hfin : (F j).2.2.2 = false) (hdesc : parseFieldDescriptor (F j).2.2.1 = some .int) (hq : (X.2.2 ci)[j]? = some (0, a)) (hd : decode cc pc = .ok (.putfield i, 3)) (kk : ∀ h2 : zH, h2 = zi h k j x → ZW p l e R s m args below meth c Q X E cl A s.heap nL kc ks h2 (pc + 3) lv (rest)) : ZW p l e R s m args below meth c Q X E cl A s.heap nL kc ks h (pc) lv (.int x :: .ref (E.2.2.1 k) :: rest) := by
  intro H locs ls hP hD hS hL
  have hl : j < (zf E h k (X.2.2 ci)).length := by rw [zf_len]; exact (List.getElem?_eq_some_iff.mp hq).1
  refine va_putN (D := E.1) C.1.1 C.1.2.1 C.1.2.2.2.2 hin tf hty hnm C.1.2.2.2.1 C.2.1 hP hD hS k (by rw [zw_at hk, ze_obj hX]) hc j hj (va_Nw.use rfl (C.2.2.1 _ hw)) (fun _ h9 => h9) hfin hdesc rfl rfl hl hd (fun H1 locs1 hP1 hD1 hS1 => ?_)
  rw [zw_fi hk hX hq] at hP1 hD1
  exact kk _ rfl H1 locs1 ls hP1 hD1 hS1 hL
theorem z_putLN (C : ZC p R s m args meth c cc nL T own E cl N G A X kc ks s.heap) {k ci i j n a : Nat} {host : String} {K : String} {F : u_T} {x : Int64} (tf : Nat → FieldType) (hk : k < X.1) (hX : X.2.1 k = (0, ci)) (hc : cl[ci]? = some (K, F, n)) (hin : ∀ w ∈ u_ws K F n, w ∈ T) (hty : ∀ k, k < n → parseFieldDescriptor (F k).2.2.1 = some (tf k)) (hnm : ∀ a, a < n → ∀ b, b < n → a ≠ b → (F a).2.1 ≠ (F b).2.1) (hj : j < n) (hw : Cond.fieldLinkNest own i (F j).1 (F j).2.1 (F j).2.2.1 host ∈ N) (hfin : (F j).2.2.2 = false) (hdesc : parseFieldDescriptor (F j).2.2.1 = some .long) (hq : (X.2.2 ci)[j]? = some (1, a)) (hd : decode cc pc = .ok (.putfield i, 3)) (kk : ∀ h2 : zH, h2 = zl h k j x → ZW p l e R s m args below meth c Q X E cl A s.heap nL kc ks h2 (pc + 3) lv (rest)) : ZW p l e R s m args below meth c Q X E cl A s.heap nL kc ks h (pc) lv (.long x :: .ref (E.2.2.1 k) :: rest) := by
  intro H locs ls hP hD hS hL
  have hl : j < (zf E h k (X.2.2 ci)).length := by rw [zf_len]; exact (List.getElem?_eq_some_iff.mp hq).1
  refine va_putN (D := E.1) C.1.1 C.1.2.1 C.1.2.2.2.2 hin tf hty hnm C.1.2.2.2.1 C.2.1 hP hD hS k (by rw [zw_at hk, ze_obj hX]) hc j hj (va_Nw.use rfl (C.2.2.1 _ hw)) (fun _ h9 => h9) hfin hdesc rfl rfl hl hd (fun H1 locs1 hP1 hD1 hS1 => ?_)
  rw [zw_fl hk hX hq] at hP1 hD1
  exact kk _ rfl H1 locs1 ls hP1 hD1 hS1 hL
theorem z_putRN (C : ZC p R s m args meth c cc nL T own E cl N G A X kc ks s.heap) {k ci i j n a : Nat} {host : String} {K : String} {F : u_T} {x : Nat} (tf : Nat → FieldType) (hk : k < X.1) (hX : X.2.1 k = (0, ci)) (hc : cl[ci]? = some (K, F, n)) (hin : ∀ w ∈ u_ws K F n, w ∈ T) (hty : ∀ k, k < n → parseFieldDescriptor (F k).2.2.1 = some (tf k)) (hnm : ∀ a, a < n → ∀ b, b < n → a ≠ b → (F a).2.1 ≠ (F b).2.1) (hj : j < n) (hw : Cond.fieldLinkNest own i (F j).1 (F j).2.1 (F j).2.2.1 host ∈ N) (hfin : (F j).2.2.2 = false) {ty : FieldType} (hdesc : parseFieldDescriptor (F j).2.2.1 = some ty) (hnar : ∀ a : Nat, narrow ty (.ref a) = .ref a) (hfit : ∀ a : Nat, fits ty (.ref a) = true) (hq : (X.2.2 ci)[j]? = some (4, a)) (hd : decode cc pc = .ok (.putfield i, 3)) (kk : ∀ h2 : zH, h2 = zr h k j x → ZW p l e R s m args below meth c Q X E cl A s.heap nL kc ks h2 (pc + 3) lv (rest)) : ZW p l e R s m args below meth c Q X E cl A s.heap nL kc ks h (pc) lv (.ref (E.2.2.1 x) :: .ref (E.2.2.1 k) :: rest) := by
  intro H locs ls hP hD hS hL
  have hl : j < (zf E h k (X.2.2 ci)).length := by rw [zf_len]; exact (List.getElem?_eq_some_iff.mp hq).1
  refine va_putN (D := E.1) C.1.1 C.1.2.1 C.1.2.2.2.2 hin tf hty hnm C.1.2.2.2.1 C.2.1 hP hD hS k (by rw [zw_at hk, ze_obj hX]) hc j hj (va_Nw.use rfl (C.2.2.1 _ hw)) (fun _ h9 => h9) hfin hdesc (hnar _) (hfit _) hl hd (fun H1 locs1 hP1 hD1 hS1 => ?_)
  rw [zw_fr hk hX hq] at hP1 hD1
  exact kk _ rfl H1 locs1 ls hP1 hD1 hS1 hL
theorem z_iald (C : ZC p R s m args meth c cc nL T own E cl N G A X kc ks s.heap) {k n : Nat} {i : Int32} (hk : k < X.1) (hX : X.2.1 k = (1, n)) (hi : vp_in i n) (hd : decode cc pc = .ok (.iaload, 1)) (kk : ZW p l e R s m args below meth c Q X E cl A s.heap nL kc ks h (pc + 1) lv (.int (h.1 k i.toNatClampNeg) :: rest)) : ZW p l e R s m args below meth c Q X E cl A s.heap nL kc ks h (pc) lv (.int i :: .ref (E.2.2.1 k) :: rest) := by
  intro H locs ls hP hD hS hL
  exact va_iald (D := E.1) C.1.1 C.1.2.1 C.2.1 hP k 0 (by rw [zw_at hk, ze_int hX]) rfl hi hd (kk H locs ls hP hD hS hL)
theorem z_lald (C : ZC p R s m args meth c cc nL T own E cl N G A X kc ks s.heap) {k n : Nat} {i : Int32} (hk : k < X.1) (hX : X.2.1 k = (2, n)) (hi : vp_in i n) (hd : decode cc pc = .ok (.laload, 1)) (kk : ZW p l e R s m args below meth c Q X E cl A s.heap nL kc ks h (pc + 1) lv (.long (h.2.1 k i.toNatClampNeg) :: rest)) : ZW p l e R s m args below meth c Q X E cl A s.heap nL kc ks h (pc) lv (.int i :: .ref (E.2.2.1 k) :: rest) := by
  intro H locs ls hP hD hS hL
  exact va_lald (D := E.1) C.1.1 C.1.2.1 C.2.1 hP k 1 (by rw [zw_at hk, ze_long hX]) rfl hi hd (kk H locs ls hP hD hS hL)
theorem z_iast (C : ZC p R s m args meth c cc nL T own E cl N G A X kc ks s.heap) {k n : Nat} {i x : Int32} (hk : k < X.1) (hX : X.2.1 k = (1, n)) (hi : vp_in i n) (hd : decode cc pc = .ok (.iastore, 1)) (kk : ∀ h2 : zH, h2 = zi h k i.toNatClampNeg x → ZW p l e R s m args below meth c Q X E cl A s.heap nL kc ks h2 (pc + 1) lv (rest)) : ZW p l e R s m args below meth c Q X E cl A s.heap nL kc ks h (pc) lv (.int x :: .int i :: .ref (E.2.2.1 k) :: rest) := by
  intro H locs ls hP hD hS hL
  refine va_iast (D := E.1) C.1.1 C.1.2.1 C.2.1 hP hD hS k 0 (by rw [zw_at hk, ze_int hX]) rfl hi hd (fun H1 locs1 hP1 hD1 hS1 => ?_)
  rw [zw_int hk hX] at hP1 hD1
  exact kk _ rfl H1 locs1 ls hP1 hD1 hS1 hL
theorem z_last (C : ZC p R s m args meth c cc nL T own E cl N G A X kc ks s.heap) {k n : Nat} {i : Int32} {x : Int64} (hk : k < X.1) (hX : X.2.1 k = (2, n)) (hi : vp_in i n) (hd : decode cc pc = .ok (.lastore, 1)) (kk : ∀ h2 : zH, h2 = zl h k i.toNatClampNeg x → ZW p l e R s m args below meth c Q X E cl A s.heap nL kc ks h2 (pc + 1) lv (rest)) : ZW p l e R s m args below meth c Q X E cl A s.heap nL kc ks h (pc) lv (.long x :: .int i :: .ref (E.2.2.1 k) :: rest) := by
  intro H locs ls hP hD hS hL
  refine va_last (D := E.1) C.1.1 C.1.2.1 C.2.1 hP hD hS k 1 (by rw [zw_at hk, ze_long hX]) rfl hi hd (fun H1 locs1 hP1 hD1 hS1 => ?_)
  rw [zw_long hk hX] at hP1 hD1
  exact kk _ rfl H1 locs1 ls hP1 hD1 hS1 hL
theorem z_alenI (C : ZC p R s m args meth c cc nL T own E cl N G A X kc ks s.heap) {k n : Nat} {v : Int32} (hk : k < X.1) (hX : X.2.1 k = (1, n)) (hv : Int32.ofNat n = v) (hd : decode cc pc = .ok (.arraylength, 1)) (kk : ZW p l e R s m args below meth c Q X E cl A s.heap nL kc ks h (pc + 1) lv (.int v :: rest)) : ZW p l e R s m args below meth c Q X E cl A s.heap nL kc ks h (pc) lv (.ref (E.2.2.1 k) :: rest) := by
  intro H locs ls hP hD hS hL
  exact va_alen (D := E.1) C.1.1 C.1.2.1 C.2.1 hP k 0 (by rw [zw_at hk, ze_int hX]) rfl hv hd (kk H locs ls hP hD hS hL)
theorem z_gets (C : ZC p R s m args meth c cc nL T own E cl N G A X kc ks s.heap) {i : Nat} {K n d : String} {v : Value} (hZ : va_Z K n d v A s s.heap) (hw : Cond.fieldLink own i K n d ∈ T) (hd : decode cc pc = .ok (.getstatic i, 3)) (k : ZW p l e R s m args below meth c Q X E cl A s.heap nL kc ks h (pc + 3) lv (v :: rest)) : ZW p l e R s m args below meth c Q X E cl A s.heap nL kc ks h (pc) lv (rest) := fun H locs ls hP hD hS hL => va_gets C.1.1 C.1.2.1 hZ hS C.1.2.2.2.1 (C.1.2.2.2.2 _ hw) (fun _ h9 => h9) hd (k H locs ls hP hD hS hL)
theorem z_getc (C : ZC p R s m args meth c cc nL T own E cl N G A X kc ks s.heap) {i q : Nat} {K n d : String} {v : Value} (hE : va_OF K n d v q A s s.heap) (hw : Cond.fieldLink own i K n d ∈ T) (hd : decode cc pc = .ok (.getfield i, 3)) (k : ZW p l e R s m args below meth c Q X E cl A s.heap nL kc ks h (pc + 3) lv (v :: rest)) : ZW p l e R s m args below meth c Q X E cl A s.heap nL kc ks h (pc) lv (.ref q :: rest) := fun H locs ls hP hD hS hL => vk_getf C.1.1 C.1.2.1 hE hS C.1.2.2.2.1 (C.1.2.2.2.2 _ hw) (fun _ h9 => h9) hd (k H locs ls hP hD hS hL)
theorem z_tlen (C : ZC p R s m args meth c cc nL T own E cl N G A X kc ks s.heap) {t n : Nat} {ty : FieldType} {f : Nat → Value} (hT : va_T ty t n f A s s.heap) (hd : decode cc pc = .ok (.arraylength, 1)) (k : ZW p l e R s m args below meth c Q X E cl A s.heap nL kc ks h (pc + 1) lv (.int (Int32.ofNat n) :: rest)) : ZW p l e R s m args below meth c Q X E cl A s.heap nL kc ks h (pc) lv (.ref t :: rest) := fun H locs ls hP hD hS hL => va_tlen C.1.1 C.1.2.1 hT hS rfl hd (k H locs ls hP hD hS hL)
theorem z_tb (C : ZC p R s m args meth c cc nL T own E cl N G A X kc ks s.heap) {t n : Nat} {f : Nat → Value} {i : Int32} {v : Value} (hT : va_T .byte t n f A s s.heap) (hi : vp_in i n) (hv : f i.toNatClampNeg = v) (hd : decode cc pc = .ok (.baload, 1)) (k : ZW p l e R s m args below meth c Q X E cl A s.heap nL kc ks h (pc + 1) lv (v :: rest)) : ZW p l e R s m args below meth c Q X E cl A s.heap nL kc ks h (pc) lv (.int i :: .ref t :: rest) := fun H locs ls hP hD hS hL => va_tb C.1.1 C.1.2.1 hT hS hi hv hd (k H locs ls hP hD hS hL)
theorem z_mmax (C : ZC p R s m args meth c cc nL T own E cl N G A X kc ks s.heap) {i : Nat} {x y : Int32} (h1 : Cond.methodLink own i Lib.Math.max.name ∈ T) (h2 : Cond.static Lib.Math.max.name ∈ T) (h3 : Cond.initialized "java/lang/Math" ∈ T) (h4 : Cond.code Lib.Math.max.name Lib.Math.max.code 2 (some .int) ∈ T) (hf : 1 ≤ R.frames) (hlo : (rest.map fun v => v.category).sum + 13 ≤ R.locals) (hd : decode cc pc = .ok (.invokestatic i, 3)) (kk : ZW p l e R s m args below meth c Q X E cl A s.heap nL kc ks h (pc + 3) lv (.int (if x < y then y else x) :: rest)) : ZW p l e R s m args below meth c Q X E cl A s.heap nL kc ks h (pc) lv (.int y :: .int x :: rest) := fun H locs ls hP hD hS hL =>
  va_mmax C.1.1 C.1.2.1 (C.1.2.2.1.trans hL.1.symm) C.1.2.2.2.1 (C.1.2.2.2.2 _ h1) (C.1.2.2.2.2 _ h2) (C.1.2.2.2.2 _ h3) (C.1.2.2.2.2 _ h4) hf hlo C.2.2.2.2.1.1 C.2.2.2.2.1.2 hd (kk H locs ls hP hD hS hL)
theorem z_mmin (C : ZC p R s m args meth c cc nL T own E cl N G A X kc ks s.heap) {i : Nat} {x y : Int32} (h1 : Cond.methodLink own i Lib.Math.min.name ∈ T) (h2 : Cond.static Lib.Math.min.name ∈ T) (h3 : Cond.initialized "java/lang/Math" ∈ T) (h4 : Cond.code Lib.Math.min.name Lib.Math.min.code 2 (some .int) ∈ T) (hf : 1 ≤ R.frames) (hlo : (rest.map fun v => v.category).sum + 13 ≤ R.locals) (hd : decode cc pc = .ok (.invokestatic i, 3)) (kk : ZW p l e R s m args below meth c Q X E cl A s.heap nL kc ks h (pc + 3) lv (.int (if y < x then y else x) :: rest)) : ZW p l e R s m args below meth c Q X E cl A s.heap nL kc ks h (pc) lv (.int y :: .int x :: rest) := fun H locs ls hP hD hS hL =>
  va_mmin C.1.1 C.1.2.1 (C.1.2.2.1.trans hL.1.symm) C.1.2.2.2.1 (C.1.2.2.2.2 _ h1) (C.1.2.2.2.2 _ h2) (C.1.2.2.2.2 _ h3) (C.1.2.2.2.2 _ h4) hf hlo C.2.2.2.2.1.1 C.2.2.2.2.1.2 hd (kk H locs ls hP hD hS hL)
theorem z_mmaxL (C : ZC p R s m args meth c cc nL T own E cl N G A X kc ks s.heap) {i : Nat} {x y : Int64} (h1 : Cond.methodLink own i Lib.MathLoose.max_long.x ∈ T) (h2 : Cond.static Lib.MathLoose.max_long.x ∈ T) (h3 : Cond.initialized "java/lang/Math" ∈ T) (h4 : Cond.code Lib.MathLoose.max_long.x Lib.MathLoose.max_long.code 4 (some .long) ∈ T) (hf : 1 ≤ R.frames) (hlo : (rest.map fun v => v.category).sum + 15 ≤ R.locals) (hd : decode cc pc = .ok (.invokestatic i, 3)) (kk : ZW p l e R s m args below meth c Q X E cl A s.heap nL kc ks h (pc + 3) lv (.long (if y < x then x else y) :: rest)) : ZW p l e R s m args below meth c Q X E cl A s.heap nL kc ks h (pc) lv (.long y :: .long x :: rest) := fun H locs ls hP hD hS hL =>
  va_mmax_long C.1.1 C.1.2.1 (C.1.2.2.1.trans hL.1.symm) C.1.2.2.2.1 (C.1.2.2.2.2 _ h1) (C.1.2.2.2.2 _ h2) (C.1.2.2.2.2 _ h3) (C.1.2.2.2.2 _ h4) hf hlo C.2.2.2.2.1.1 C.2.2.2.2.1.2 hd (kk H locs ls hP hD hS hL)
theorem z_mminL (C : ZC p R s m args meth c cc nL T own E cl N G A X kc ks s.heap) {i : Nat} {x y : Int64} (h1 : Cond.methodLink own i Lib.MathLoose.min_long.x ∈ T) (h2 : Cond.static Lib.MathLoose.min_long.x ∈ T) (h3 : Cond.initialized "java/lang/Math" ∈ T) (h4 : Cond.code Lib.MathLoose.min_long.x Lib.MathLoose.min_long.code 4 (some .long) ∈ T) (hf : 1 ≤ R.frames) (hlo : (rest.map fun v => v.category).sum + 15 ≤ R.locals) (hd : decode cc pc = .ok (.invokestatic i, 3)) (kk : ZW p l e R s m args below meth c Q X E cl A s.heap nL kc ks h (pc + 3) lv (.long (if y < x then y else x) :: rest)) : ZW p l e R s m args below meth c Q X E cl A s.heap nL kc ks h (pc) lv (.long y :: .long x :: rest) := fun H locs ls hP hD hS hL =>
  va_mmin_long C.1.1 C.1.2.1 (C.1.2.2.1.trans hL.1.symm) C.1.2.2.2.1 (C.1.2.2.2.2 _ h1) (C.1.2.2.2.2 _ h2) (C.1.2.2.2.2 _ h3) (C.1.2.2.2.2 _ h4) hf hlo C.2.2.2.2.1.1 C.2.2.2.2.1.2 hd (kk H locs ls hP hD hS hL)
theorem z_mabs (C : ZC p R s m args meth c cc nL T own E cl N G A X kc ks s.heap) {i : Nat} {x : Int32} (h1 : Cond.methodLink own i Lib.Math.abs.name ∈ T) (h2 : Cond.static Lib.Math.abs.name ∈ T) (h3 : Cond.initialized "java/lang/Math" ∈ T) (h4 : Cond.code Lib.Math.abs.name Lib.Math.abs.code 1 (some .int) ∈ T) (hf : 1 ≤ R.frames) (hlo : (rest.map fun v => v.category).sum + 13 ≤ R.locals) (hd : decode cc pc = .ok (.invokestatic i, 3)) (kk : ZW p l e R s m args below meth c Q X E cl A s.heap nL kc ks h (pc + 3) lv (.int (if 0 ≤ x then x else 0 - x) :: rest)) : ZW p l e R s m args below meth c Q X E cl A s.heap nL kc ks h (pc) lv (.int x :: rest) := fun H locs ls hP hD hS hL =>
  va_mabs C.1.1 C.1.2.1 (C.1.2.2.1.trans hL.1.symm) C.1.2.2.2.1 (C.1.2.2.2.2 _ h1) (C.1.2.2.2.2 _ h2) (C.1.2.2.2.2 _ h3) (C.1.2.2.2.2 _ h4) hf hlo C.2.2.2.2.1.1 C.2.2.2.2.1.2 hd (kk H locs ls hP hD hS hL)
theorem z_mabsL (C : ZC p R s m args meth c cc nL T own E cl N G A X kc ks s.heap) {i : Nat} {x : Int64} (h1 : Cond.methodLink own i Lib.MathLoose.abs_long.x ∈ T) (h2 : Cond.static Lib.MathLoose.abs_long.x ∈ T) (h3 : Cond.initialized "java/lang/Math" ∈ T) (h4 : Cond.code Lib.MathLoose.abs_long.x Lib.MathLoose.abs_long.code 2 (some .long) ∈ T) (hf : 1 ≤ R.frames) (hlo : (rest.map fun v => v.category).sum + 13 ≤ R.locals) (hd : decode cc pc = .ok (.invokestatic i, 3)) (kk : ZW p l e R s m args below meth c Q X E cl A s.heap nL kc ks h (pc + 3) lv (.long (if 0 < x then x else -x) :: rest)) : ZW p l e R s m args below meth c Q X E cl A s.heap nL kc ks h (pc) lv (.long x :: rest) := fun H locs ls hP hD hS hL =>
  va_mabs_long C.1.1 C.1.2.1 (C.1.2.2.1.trans hL.1.symm) C.1.2.2.2.1 (C.1.2.2.2.2 _ h1) (C.1.2.2.2.2 _ h2) (C.1.2.2.2.2 _ h3) (C.1.2.2.2.2 _ h4) hf hlo C.2.2.2.2.1.1 C.2.2.2.2.1.2 hd (kk H locs ls hP hD hS hL)
end ZZ
/-! CONTRACTS: from h with the arguments av the method answers r, and the cells hold h' -/
def zB (X : zX) (E : zE) (cl : List vw_C) (N : List Cond) (G : (Nat → Prop) → State → Prop) (h : zH) (sz : Nat) (U : State) : Prop := U.heap.size = sz ∧ va_P E.1 cl (zw X E h) U.heap ∧ va_K E.1 cl (zty E) U ∧ va_D (fun _ => True) (zw X E h) ∧ (∀ w ∈ N, va_Nw w U) ∧ G (zA X E sz) U
def zQ (X : zX) (E : zE) (cl : List vw_C) (A : Nat → Prop) (post : Option Value → zH → Prop) : Array Value → State → Outcome → State → Prop := fun _ st o t => (∃ (r : Option Value) (h' : zH), o = .returned r ∧ post r h' ∧ va_P E.1 cl (zw X E h') t.heap) ∧ va_F A st t
def zPi (post : Int32 → zH → Prop) : Option Value → zH → Prop := fun r h' => ∃ v : Int32, r = some (.int v) ∧ post v h'
def zPl (post : Int64 → zH → Prop) : Option Value → zH → Prop := fun r h' => ∃ v : Int64, r = some (.long v) ∧ post v h'
def zPv (post : zH → Prop) : Option Value → zH → Prop := fun r h' => r = none ∧ post h'
def Ct (l : Launch) (X : zX) (E : zE) (cl : List vw_C) (N T : List Cond) (G : (Nat → Prop) → State → Prop) (d w : Nat) (y : MethodName) (cc : ByteArray) (nL : Nat) (ret : Option FieldType) (av : List Value) (h : zH) (post : Option Value → zH → Prop) : Prop :=
  ∀ sz : Nat, Met l y (Cond.code y cc nL ret :: T) (zrm d w) (va_Pc av (zB X E cl N G h sz)) (zQ X E cl (zA X E sz) post) 0 0 (zA X E sz)
/-- a ground that stays: the calls' state has it too -/
def zGr (G : (Nat → Prop) → State → Prop) : Prop := (∀ (A B : Nat → Prop) (s U : State) (locs : List Loc), G A s → va_S A s.heap U.heap locs → s.WarmedH U.vm → (∀ q, B q → A q) → G B U) ∧ ∀ (B : Nat → Prop) (U : State) (g : JFrame) (mk : MethodId) (a : Array Value), G B U → G B (U.calling g mk a)
def zNest (w : Cond) : Bool := match w with
  | .fieldLinkNest .. => true
  | .methodLinkNest .. => true
  | _ => false
theorem zNest_on {w : Cond} (h : zNest w = true) : w.onTables = true := by
  cases w <;> first | rfl | (simp [zNest] at h)
theorem zNest_warm {w : Cond} (h : zNest w = true) {s U : State} (hW : s.WarmedH U.vm) (hz : va_Nw w s) : va_Nw w U := by
  cases w <;> first | exact va_Nw.warmF hW hz | exact va_Nw.warmM hW hz | (simp [zNest] at h)
/-- a method's walk gives its contract -/
theorem Ct.of {l : Launch} {X : zX} {E : zE} {cl : List vw_C} {N T : List Cond} {G : (Nat → Prop) → State → Prop} {d w : Nat} {y : MethodName} {cc : ByteArray} {nL : Nat} {ret : Option FieldType} {av : List Value} {h : zH} {post : Option Value → zH → Prop} (hy : plainName y.cls = true) (hav : (lg_sl av).length ≤ nL)
    (body : ∀ (p : Program) (e : Env) (s : State) (m : MethodId) (below : List Frame) (meth : Method) (c : Code) (A : Nat → Prop), ZC p (zrm d w) s m av.toArray meth c cc nL T y.cls E cl N G A X 0 0 s.heap → meth.sig.returnType = ret →
      ZW p l e (zrm d w) s m av.toArray below meth c (MQ below (zQ X E cl A post) av.toArray s 0 0 A) X E cl A s.heap nL 0 0 h 0 (zlv av nL) []) : Ct l X E cl N T G d w y cc nL ret av h post := by
  intro sz
  refine Met.ofW (cc := cc) (maxL := nL) (ret := ret) hy rfl ?_
  intro p e s m args below meth c s₁ B hml hv
  obtain ⟨rfl, hsz, hP, hK, hD0, hN, hGG⟩ := hv
  subst hsz
  have hts := atoms_spec (ws := Cond.code y cc nL ret :: T) B.pre
  have hown : s.vm.findClass y.cls = some m.cls := findClass_of_methodNamed B.named
  have C : ZC p (zrm d w) s m av.toArray meth c cc nL T y.cls E cl N G (zA X E s.heap.size) X 0 0 s.heap := ⟨⟨B.exec, B.bytes, hml, hown, fun w hw => hts w (List.mem_cons_of_mem _ hw)⟩, hK, hN, B.notSynchronized, ⟨Nat.zero_le _, Nat.zero_le _⟩, fun q hq => Or.inr hq, hGG⟩
  have hD : va_D (zA X E s.heap.size) (zw X E h) := hD0.weaken (fun k q hq _ => by
    have hk : k < X.1 := by
      have := (List.getElem?_eq_some_iff.mp hq).1
      simpa [zw] using this
    rw [zw_at hk] at hq
    cases hq
    exact Or.inl ⟨k, hk, rfl⟩)
  have hl := lv_entry av (n := nL) hav
  rw [lg_entry_eq]
  generalize (lg_sl av ++ List.replicate (nL - (lg_sl av).length) Slot.unset).toArray = ls at hl ⊢
  exact body p e s m below meth c _ C B.returns s.heap [] ls hP hD va_S.rf (zlv_in hl)
section ZR

variable {p : Program} {l : Launch} {e : Env} {R : Room} {s : State} {m : MethodId} {args : Array Value} {below : List Frame} {meth : Method} {c : Code} 
variable {cc : ByteArray} {nL : Nat} {T : List Cond} {own : String} {X : zX} {E : zE} {cl : List vw_C} {N : List Cond} {A : Nat → Prop} {G : (Nat → Prop) → State → Prop}
variable {h : zH} {pc : Nat} {lv : List (Option Value)} {rest : List Value}

theorem z_iret {post : Int32 → zH → Prop} (C : ZC p R s m args meth c cc nL T own E cl N G A X 0 0 s.heap) (hr : meth.sig.returnType = some .int) {v : Int32} (hd : decode cc pc = .ok (.ireturn, 1)) (e1 : post v h) : ZW p l e R s m args below meth c (MQ below (zQ X E cl A (zPi post)) args s 0 0 A) X E cl A s.heap nL 0 0 h (pc) lv (.int v :: []) := by
  intro H locs ls hP hD hS hL
  exact W.iret C.1.1 C.1.2.1 hr (fun t ht hW => ⟨⟨_, h, rfl, ⟨v, rfl, e1⟩, by rw [ht]; exact hP⟩, hS.F ht⟩) hS.2.2 hd C.2.2.2.1
theorem z_lret {post : Int64 → zH → Prop} (C : ZC p R s m args meth c cc nL T own E cl N G A X 0 0 s.heap) (hr : meth.sig.returnType = some .long) {v : Int64} (hd : decode cc pc = .ok (.lreturn, 1)) (e1 : post v h) : ZW p l e R s m args below meth c (MQ below (zQ X E cl A (zPl post)) args s 0 0 A) X E cl A s.heap nL 0 0 h (pc) lv (.long v :: []) := by
  intro H locs ls hP hD hS hL
  exact W.lret C.1.1 C.1.2.1 hr (fun t ht hW => ⟨⟨_, h, rfl, ⟨v, rfl, e1⟩, by rw [ht]; exact hP⟩, hS.F ht⟩) hS.2.2 hd C.2.2.2.1
theorem z_zret {post : Int32 → zH → Prop} (C : ZC p R s m args meth c cc nL T own E cl N G A X 0 0 s.heap) {ty : FieldType} (hr : meth.sig.returnType = some ty) {v : Int32} (hn : narrow ty (.int v) = .int v) (hd : decode cc pc = .ok (.ireturn, 1)) (e1 : post v h) : ZW p l e R s m args below meth c (MQ below (zQ X E cl A (zPi post)) args s 0 0 A) X E cl A s.heap nL 0 0 h (pc) lv (.int v :: []) := by
  intro H locs ls hP hD hS hL
  exact W.zret C.1.1 C.1.2.1 hr hn (fun t ht hW => ⟨⟨_, h, rfl, ⟨v, rfl, e1⟩, by rw [ht]; exact hP⟩, hS.F ht⟩) hS.2.2 hd C.2.2.2.1
theorem z_vret {post : zH → Prop} (C : ZC p R s m args meth c cc nL T own E cl N G A X 0 0 s.heap) (hr : meth.sig.returnType = none) (hd : decode cc pc = .ok (.return_, 1)) (e1 : post h) : ZW p l e R s m args below meth c (MQ below (zQ X E cl A (zPv post)) args s 0 0 A) X E cl A s.heap nL 0 0 h (pc) lv ([]) := by
  intro H locs ls hP hD hS hL
  exact W.vret C.1.1 C.1.2.1 hr (fun t ht hW => ⟨⟨_, h, rfl, ⟨rfl, e1⟩, by rw [ht]; exact hP⟩, hS.F ht⟩) hS.2.2 hd C.2.2.2.1
end ZR
section ZK

variable {p : Program} {l : Launch} {e : Env} {R : Room} {s : State} {m : MethodId} {args : Array Value} {below : List Frame} {meth : Method} {c : Code} {Q : State → Prop}
variable {cc : ByteArray} {nL : Nat} {T : List Cond} {own : String} {X : zX} {E : zE} {cl : List vw_C} {N : List Cond} {A : Nat → Prop} {kc ks : Nat} {G : (Nat → Prop) → State → Prop}
variable {h : zH} {pc : Nat} {lv : List (Option Value)} {rest : List Value}

/-- behind a call -/
theorem z_back {st0 : List Value} {av : Array Value} {post : Option Value → zH → Prop} {ls : Array Slot} {H : Heap} {locs : List Loc} (hAA : ∀ q, q < H.size → zA X E H.size q → A q) (hAf : ∀ q, zA X E H.size q → A q) (hD : va_D A (zw X E h)) (hS : va_S A s.heap H locs) (hL : zLH ls nL lv)
    (hrun : va_Run p l e R s m args below meth c H locs kc ks 0 0 (F0 m pc ls st0) rest (zQ X E cl (zA X E H.size) post av) (zA X E H.size))
    (kk : ∀ (r : Option Value) (h2 : zH), post r h2 → ZW p l e R s m args below meth c Q X E cl A s.heap nL kc ks h2 (pc + 3) lv (r.toList ++ rest)) : W p l e R s m args below meth c H locs kc ks Q (F0 m pc ls st0) := by
  intro T0 hT X0
  obtain ⟨v, st₀, t, T', L, h0, X', hL2, e1, e2, ⟨⟨r2, h3, hv, hpo, hP2⟩, hz, hk⟩, st⟩ := hrun T0 hT X0
  cases hv
  rw [h0] at hz hk
  have hS2 : va_S A s.heap T'.heap (locs ++ L) := ⟨Nat.le_trans hS.1 (by rw [e1]; exact hz), fun q h1 h2 => by rw [e1, hk q (Nat.lt_of_lt_of_le h1 hS.1) (fun z => h2 (hAA q (Nat.lt_of_lt_of_le h1 hS.1) z))]; exact hS.2.1 q h1 h2, fun q hq => by
      rcases List.mem_append.mp hq with h | h
      · exact hS.2.2 q h
      · exact hAf _ (hL2 q h)⟩
  obtain ⟨t2, a1, b1⟩ := kk _ h3 hpo T'.heap (locs ++ L) ls (by rw [e1]; exact hP2) (zw_D hD) hS2 hL T' rfl X'
  exact ⟨t2, st t2 a1, b1⟩
theorem z_in {H : Heap} {locs : List Loc} (C : ZC p R s m args meth c cc nL T own E cl N G A X kc ks s.heap) (hD : va_D A (zw X E h)) (hS : va_S A s.heap H locs) : ∀ q, zA X E H.size q → A q := by
  intro q hq
  rcases hq with ⟨k, hk, rfl⟩ | hq
  · exact hD.2 k _ (zw_at hk)
  · exact C.2.2.2.2.2.1 q (Nat.le_trans hS.1 hq)
theorem z_pre {H : Heap} {locs : List Loc} {av : List Value} (hN : (∀ w ∈ N, zNest w = true) ∧ zGr G) (C : ZC p R s m args meth c cc nL T own E cl N G A X kc ks s.heap) (hS : va_S A s.heap H locs) (hP : va_P E.1 cl (zw X E h) H) (hD : va_D A (zw X E h)) : PreS s H (va_Pc av (zB X E cl N G h H.size)) av := by
  refine ⟨fun a U g mk q => ?_, fun U hU hW => ?_⟩
  · obtain ⟨q0, q1, qP, qK, qD, qN, qG⟩ := q
    exact ⟨q0, q1, qP, va_K.moved (u := U) (U := U.calling g mk a) (Vm.Alike.refl U.vm) qK, qD, fun w hw => va_Nw.same (zNest_on (hN.1 w hw)) (u := U) (U := U.calling g mk a) rfl (qN w hw), hN.2.2 _ U g mk a qG⟩
  · exact ⟨rfl, by rw [hU], by rw [hU]; exact hP, va_K.moved hW.alike C.2.1, hD.weaken (fun _ _ _ _ => trivial), fun w hw => zNest_warm (hN.1 w hw) hW (C.2.2.1 w hw), hN.2.1 A _ s U locs C.2.2.2.2.2.2 (by rw [hU]; exact hS) hW (z_in C hD hS)⟩
def zGood (T : List Cond) : Prop := ∀ w ∈ T, (w.onTables && w.keeps) = true ∨ ∃ ty, w = .arrayClass ty
theorem zGood.pay (hG : zGood T) (hts : ∀ w ∈ T, w.before args s = true) {w0 : Cond} (h0 : w0 ∈ T) : ∀ w ∈ (w0 :: T), ∀ (a' : Array Value) (U : State), s.WarmedH U.vm → w.before a' U = true := by
  intro w hw a' U hW
  have hw2 : w ∈ T := by
    rcases List.mem_cons.mp hw with rfl | h
    · exact h0
    · exact h
  exact word_at hW (hG w hw2) (hts w hw2)
theorem z_room {d2 w2 maxL : Nat} (h : d2 + 1 ≤ R.frames) (h2 : 8 + (maxL + 11) + w2 ≤ R.locals) : (zrm d2 w2).cells = 0 ∧ (zrm d2 w2).slots = 0 ∧ (zrm d2 w2).frames + 1 ≤ R.frames ∧ 8 + (maxL + 11) + (zrm d2 w2).locals ≤ R.locals := ⟨rfl, rfl, h, h2⟩
/-- the words of a call, as a list to look up at once -/
def zwV (own : String) (i : Nat) (y : MethodName) (bytes : ByteArray) (maxL : Nat) (ret : Option FieldType) : List Cond := [.methodLink own i y, .instanceMethod y, .selects y.cls y y, .initialized y.cls, .code y bytes maxL ret]
def zwS (own : String) (i : Nat) (y : MethodName) (bytes : ByteArray) (maxL : Nat) (ret : Option FieldType) : List Cond := [.methodLink own i y, .static y, .initialized y.cls, .code y bytes maxL ret]
def zwVN (y : MethodName) (bytes : ByteArray) (maxL : Nat) (ret : Option FieldType) : List Cond := [.instanceMethod y, .selects y.cls y y, .initialized y.cls, .code y bytes maxL ret]
def zwSN (y : MethodName) (bytes : ByteArray) (maxL : Nat) (ret : Option FieldType) : List Cond := [.static y, .initialized y.cls, .code y bytes maxL ret]
theorem z_lens {y : MethodName} {n : Nat} (h : (parseMethodDescriptor y.desc).map (fun d => d.parameters.length) = some n) : ∀ sig, parseMethodDescriptor y.desc = some sig → n = sig.parameters.length := by
  intro sig hs
  rw [hs] at h
  exact (Option.some.inj h).symm

theorem z_callRi (hN : (∀ w ∈ N, zNest w = true) ∧ zGr G) (hG : zGood T) (C : ZC p R s m args meth c cc nL T own E cl N G A X kc ks s.heap) {y : MethodName} {bytes : ByteArray} {maxL n i d2 w2 : Nat} {ret : Option FieldType} {b : Nat} {As st0 : List Value} {post : Int32 → zH → Prop} (hc : Ct l X E cl N T G d2 w2 y bytes maxL ret (.ref b :: As) h (zPi post)) (hw : ∀ w ∈ zwV own i y bytes maxL ret, w ∈ T) (hrc : ∀ (H : Heap) (locs : List Loc), va_S A s.heap H locs → ∃ cell : Cell, H[b]? = some cell ∧ cell.vm.isStatics = false ∧ s.vm.findClass y.cls = some cell.cls) (hfr : d2 + 1 ≤ R.frames) (hlo : 8 + (maxL + 11) + w2 ≤ R.locals) (hpl : y.cls ≠ "java/lang/invoke/MethodHandle" ∧ y.cls ≠ "java/lang/invoke/VarHandle" ∧ (parseMethodDescriptor y.desc).map (fun d => d.parameters.length) = some n) (hn : As.length = n) (hst : st0 = As.reverse ++ .ref b :: rest) (hW : (rest.map fun v => v.category).sum ≤ 8) (hd : decode cc pc = .ok (.invokevirtual i, 3)) (kk : ∀ (v : Int32) (h2 : zH), post v h2 → ZW p l e R s m args below meth c Q X E cl A s.heap nL kc ks h2 (pc + 3) lv (.int v :: rest)) : ZW p l e R s m args below meth c Q X E cl A s.heap nL kc ks h (pc) lv (st0) := by
  intro H locs ls hP hD hS hL
  have hF := z_in C hD hS
  refine z_back (post := zPi post) (fun q _ hq => hF q hq) hF hD hS hL ?_ (fun r h2 hq => by obtain ⟨v, rfl, q⟩ := hq; exact kk v h2 q) (av := (.ref b :: As).toArray)
  subst hst
  obtain ⟨a1, a2, a3, a4⟩ := z_room (R := R) (maxL := maxL) (w2 := w2) hfr hlo
  have w_ml := hw _ (List.mem_of_getElem? (i := 0) rfl)
  have w_im := hw _ (List.mem_of_getElem? (i := 1) rfl)
  have w_se := hw _ (List.mem_of_getElem? (i := 2) rfl)
  have w_ini := hw _ (List.mem_of_getElem? (i := 3) rfl)
  have w_co := hw _ (List.mem_of_getElem? (i := 4) rfl)
  have hpre := z_pre (av := (.ref b :: As)) hN C hS hP hD
  have hpv : PreV s H y.cls b (va_Pc (.ref b :: As) (zB X E cl N G h H.size)) As := ⟨hpre.1, hrc H locs hS, hpre.2⟩
  exact va_runV (C := y.cls) (As := As) (rest := rest) C.1 (hc H.size) ⟨⟨a1, a2, a3, a4, (hG.pay C.1.2.2.2.2 w_co), List.mem_cons_self, C.1.2.2.2.2 _ w_co, C.1.2.2.2.2 _ w_ini, ⟨hpl.1, hpl.2.1⟩, z_lens hpl.2.2, C.1.2.2.2.2 _ w_ml⟩, C.1.2.2.2.2 _ w_im, C.1.2.2.2.2 _ w_se⟩ hpv rfl hn hL.1 rfl (lv_room hW) hd ⟨C.2.2.2.2.1.1, C.2.2.2.2.1.2⟩
theorem z_callV (hN : (∀ w ∈ N, zNest w = true) ∧ zGr G) (hG : zGood T) (C : ZC p R s m args meth c cc nL T own E cl N G A X kc ks s.heap) {y : MethodName} {bytes : ByteArray} {maxL n i d2 w2 : Nat} {ret : Option FieldType} {b ci nf : Nat} {F : u_T} {As st0 : List Value} {post : Option Value → zH → Prop} (hc : Ct l X E cl N T G d2 w2 y bytes maxL ret (.ref (E.2.2.1 b) :: As) h post) (hw : ∀ w ∈ zwV own i y bytes maxL ret, w ∈ T) (hb : b < X.1) (hX : X.2.1 b = (0, ci)) (hcl : cl[ci]? = some (y.cls, F, nf)) (hfr : d2 + 1 ≤ R.frames) (hlo : 8 + (maxL + 11) + w2 ≤ R.locals) (hpl : y.cls ≠ "java/lang/invoke/MethodHandle" ∧ y.cls ≠ "java/lang/invoke/VarHandle" ∧ (parseMethodDescriptor y.desc).map (fun d => d.parameters.length) = some n) (hn : As.length = n) (hst : st0 = As.reverse ++ .ref (E.2.2.1 b) :: rest) (hW : (rest.map fun v => v.category).sum ≤ 8) (hd : decode cc pc = .ok (.invokevirtual i, 3)) (kk : ∀ (r : Option Value) (h2 : zH), post r h2 → ZW p l e R s m args below meth c Q X E cl A s.heap nL kc ks h2 (pc + 3) lv (r.toList ++ rest)) : ZW p l e R s m args below meth c Q X E cl A s.heap nL kc ks h (pc) lv (st0) := by
  intro H locs ls hP hD hS hL
  have hF := z_in C hD hS
  refine z_back (post := post) (fun q _ hq => hF q hq) hF hD hS hL ?_ kk (av := (.ref (E.2.2.1 b) :: As).toArray)
  subst hst
  obtain ⟨a1, a2, a3, a4⟩ := z_room (R := R) (maxL := maxL) (w2 := w2) hfr hlo
  have w_ml := hw _ (List.mem_of_getElem? (i := 0) rfl)
  have w_im := hw _ (List.mem_of_getElem? (i := 1) rfl)
  have w_se := hw _ (List.mem_of_getElem? (i := 2) rfl)
  have w_ini := hw _ (List.mem_of_getElem? (i := 3) rfl)
  have w_co := hw _ (List.mem_of_getElem? (i := 4) rfl)
  have hpre := z_pre (av := (.ref (E.2.2.1 b) :: As)) hN C hS hP hD
  have hrc := va_recv C.2.1 hP (ci := ci) (q0 := b) hcl (by rw [zw_at hb, ze_obj hX])
  have hpv : PreV s H y.cls (E.2.2.1 b) (va_Pc (.ref (E.2.2.1 b) :: As) (zB X E cl N G h H.size)) As := ⟨hpre.1, hrc, hpre.2⟩
  exact va_runV (C := y.cls) (As := As) (rest := rest) C.1 (hc H.size) ⟨⟨a1, a2, a3, a4, (hG.pay C.1.2.2.2.2 w_co), List.mem_cons_self, C.1.2.2.2.2 _ w_co, C.1.2.2.2.2 _ w_ini, ⟨hpl.1, hpl.2.1⟩, z_lens hpl.2.2, C.1.2.2.2.2 _ w_ml⟩, C.1.2.2.2.2 _ w_im, C.1.2.2.2.2 _ w_se⟩ hpv rfl hn hL.1 rfl (lv_room hW) hd ⟨C.2.2.2.2.1.1, C.2.2.2.2.1.2⟩
theorem z_callVi (hN : (∀ w ∈ N, zNest w = true) ∧ zGr G) (hG : zGood T) (C : ZC p R s m args meth c cc nL T own E cl N G A X kc ks s.heap) {y : MethodName} {bytes : ByteArray} {maxL n i d2 w2 : Nat} {ret : Option FieldType} {b ci nf : Nat} {F : u_T} {As st0 : List Value} {post : Int32 → zH → Prop} (hc : Ct l X E cl N T G d2 w2 y bytes maxL ret (.ref (E.2.2.1 b) :: As) h (zPi post)) (hw : ∀ w ∈ zwV own i y bytes maxL ret, w ∈ T) (hb : b < X.1) (hX : X.2.1 b = (0, ci)) (hcl : cl[ci]? = some (y.cls, F, nf)) (hfr : d2 + 1 ≤ R.frames) (hlo : 8 + (maxL + 11) + w2 ≤ R.locals) (hpl : y.cls ≠ "java/lang/invoke/MethodHandle" ∧ y.cls ≠ "java/lang/invoke/VarHandle" ∧ (parseMethodDescriptor y.desc).map (fun d => d.parameters.length) = some n) (hn : As.length = n) (hst : st0 = As.reverse ++ .ref (E.2.2.1 b) :: rest) (hW : (rest.map fun v => v.category).sum ≤ 8) (hd : decode cc pc = .ok (.invokevirtual i, 3)) (kk : ∀ (v : Int32) (h2 : zH), post v h2 → ZW p l e R s m args below meth c Q X E cl A s.heap nL kc ks h2 (pc + 3) lv (.int v :: rest)) : ZW p l e R s m args below meth c Q X E cl A s.heap nL kc ks h (pc) lv (st0) :=
  z_callV hN hG C hc hw hb hX hcl hfr hlo hpl hn hst hW hd (fun r h2 hq => by obtain ⟨v, rfl, q⟩ := hq; exact kk v h2 q)
theorem z_callVl (hN : (∀ w ∈ N, zNest w = true) ∧ zGr G) (hG : zGood T) (C : ZC p R s m args meth c cc nL T own E cl N G A X kc ks s.heap) {y : MethodName} {bytes : ByteArray} {maxL n i d2 w2 : Nat} {ret : Option FieldType} {b ci nf : Nat} {F : u_T} {As st0 : List Value} {post : Int64 → zH → Prop} (hc : Ct l X E cl N T G d2 w2 y bytes maxL ret (.ref (E.2.2.1 b) :: As) h (zPl post)) (hw : ∀ w ∈ zwV own i y bytes maxL ret, w ∈ T) (hb : b < X.1) (hX : X.2.1 b = (0, ci)) (hcl : cl[ci]? = some (y.cls, F, nf)) (hfr : d2 + 1 ≤ R.frames) (hlo : 8 + (maxL + 11) + w2 ≤ R.locals) (hpl : y.cls ≠ "java/lang/invoke/MethodHandle" ∧ y.cls ≠ "java/lang/invoke/VarHandle" ∧ (parseMethodDescriptor y.desc).map (fun d => d.parameters.length) = some n) (hn : As.length = n) (hst : st0 = As.reverse ++ .ref (E.2.2.1 b) :: rest) (hW : (rest.map fun v => v.category).sum ≤ 8) (hd : decode cc pc = .ok (.invokevirtual i, 3)) (kk : ∀ (v : Int64) (h2 : zH), post v h2 → ZW p l e R s m args below meth c Q X E cl A s.heap nL kc ks h2 (pc + 3) lv (.long v :: rest)) : ZW p l e R s m args below meth c Q X E cl A s.heap nL kc ks h (pc) lv (st0) :=
  z_callV hN hG C hc hw hb hX hcl hfr hlo hpl hn hst hW hd (fun r h2 hq => by obtain ⟨v, rfl, q⟩ := hq; exact kk v h2 q)
theorem z_callVv (hN : (∀ w ∈ N, zNest w = true) ∧ zGr G) (hG : zGood T) (C : ZC p R s m args meth c cc nL T own E cl N G A X kc ks s.heap) {y : MethodName} {bytes : ByteArray} {maxL n i d2 w2 : Nat} {ret : Option FieldType} {b ci nf : Nat} {F : u_T} {As st0 : List Value} {post : zH → Prop} (hc : Ct l X E cl N T G d2 w2 y bytes maxL ret (.ref (E.2.2.1 b) :: As) h (zPv post)) (hw : ∀ w ∈ zwV own i y bytes maxL ret, w ∈ T) (hb : b < X.1) (hX : X.2.1 b = (0, ci)) (hcl : cl[ci]? = some (y.cls, F, nf)) (hfr : d2 + 1 ≤ R.frames) (hlo : 8 + (maxL + 11) + w2 ≤ R.locals) (hpl : y.cls ≠ "java/lang/invoke/MethodHandle" ∧ y.cls ≠ "java/lang/invoke/VarHandle" ∧ (parseMethodDescriptor y.desc).map (fun d => d.parameters.length) = some n) (hn : As.length = n) (hst : st0 = As.reverse ++ .ref (E.2.2.1 b) :: rest) (hW : (rest.map fun v => v.category).sum ≤ 8) (hd : decode cc pc = .ok (.invokevirtual i, 3)) (kk : ∀ (h2 : zH), post h2 → ZW p l e R s m args below meth c Q X E cl A s.heap nL kc ks h2 (pc + 3) lv (rest)) : ZW p l e R s m args below meth c Q X E cl A s.heap nL kc ks h (pc) lv (st0) :=
  z_callV hN hG C hc hw hb hX hcl hfr hlo hpl hn hst hW hd (fun r h2 hq => by obtain ⟨rfl, q⟩ := hq; exact kk h2 q)
theorem z_callS (hN : (∀ w ∈ N, zNest w = true) ∧ zGr G) (hG : zGood T) (C : ZC p R s m args meth c cc nL T own E cl N G A X kc ks s.heap) {y : MethodName} {bytes : ByteArray} {maxL n i d2 w2 : Nat} {ret : Option FieldType} {As st0 : List Value} {post : Option Value → zH → Prop} (hc : Ct l X E cl N T G d2 w2 y bytes maxL ret As h post) (hw : ∀ w ∈ zwS own i y bytes maxL ret, w ∈ T) (hfr : d2 + 1 ≤ R.frames) (hlo : 8 + (maxL + 11) + w2 ≤ R.locals) (hpl : y.cls ≠ "java/lang/invoke/MethodHandle" ∧ y.cls ≠ "java/lang/invoke/VarHandle" ∧ (parseMethodDescriptor y.desc).map (fun d => d.parameters.length) = some n) (hn : As.length = n) (hst : st0 = As.reverse ++ rest) (hW : (rest.map fun v => v.category).sum ≤ 8) (hd : decode cc pc = .ok (.invokestatic i, 3)) (kk : ∀ (r : Option Value) (h2 : zH), post r h2 → ZW p l e R s m args below meth c Q X E cl A s.heap nL kc ks h2 (pc + 3) lv (r.toList ++ rest)) : ZW p l e R s m args below meth c Q X E cl A s.heap nL kc ks h (pc) lv (st0) := by
  intro H locs ls hP hD hS hL
  have hF := z_in C hD hS
  refine z_back (post := post) (fun q _ hq => hF q hq) hF hD hS hL ?_ kk (av := As.toArray)
  subst hst
  obtain ⟨a1, a2, a3, a4⟩ := z_room (R := R) (maxL := maxL) (w2 := w2) hfr hlo
  have w_ml := hw _ (List.mem_of_getElem? (i := 0) rfl)
  have w_stc := hw _ (List.mem_of_getElem? (i := 1) rfl)
  have w_ini := hw _ (List.mem_of_getElem? (i := 2) rfl)
  have w_co := hw _ (List.mem_of_getElem? (i := 3) rfl)
  have hpv := z_pre (av := As) hN C hS hP hD
  exact va_runS (As := As) (rest := rest) C.1 (hc H.size) ⟨⟨a1, a2, a3, a4, (hG.pay C.1.2.2.2.2 w_co), List.mem_cons_self, C.1.2.2.2.2 _ w_co, C.1.2.2.2.2 _ w_ini, ⟨hpl.1, hpl.2.1⟩, z_lens hpl.2.2, C.1.2.2.2.2 _ w_ml⟩, C.1.2.2.2.2 _ w_stc⟩ hpv rfl hn hL.1 rfl (lv_room hW) hd ⟨C.2.2.2.2.1.1, C.2.2.2.2.1.2⟩
theorem z_callSi (hN : (∀ w ∈ N, zNest w = true) ∧ zGr G) (hG : zGood T) (C : ZC p R s m args meth c cc nL T own E cl N G A X kc ks s.heap) {y : MethodName} {bytes : ByteArray} {maxL n i d2 w2 : Nat} {ret : Option FieldType} {As st0 : List Value} {post : Int32 → zH → Prop} (hc : Ct l X E cl N T G d2 w2 y bytes maxL ret As h (zPi post)) (hw : ∀ w ∈ zwS own i y bytes maxL ret, w ∈ T) (hfr : d2 + 1 ≤ R.frames) (hlo : 8 + (maxL + 11) + w2 ≤ R.locals) (hpl : y.cls ≠ "java/lang/invoke/MethodHandle" ∧ y.cls ≠ "java/lang/invoke/VarHandle" ∧ (parseMethodDescriptor y.desc).map (fun d => d.parameters.length) = some n) (hn : As.length = n) (hst : st0 = As.reverse ++ rest) (hW : (rest.map fun v => v.category).sum ≤ 8) (hd : decode cc pc = .ok (.invokestatic i, 3)) (kk : ∀ (v : Int32) (h2 : zH), post v h2 → ZW p l e R s m args below meth c Q X E cl A s.heap nL kc ks h2 (pc + 3) lv (.int v :: rest)) : ZW p l e R s m args below meth c Q X E cl A s.heap nL kc ks h (pc) lv (st0) :=
  z_callS hN hG C hc hw hfr hlo hpl hn hst hW hd (fun r h2 hq => by obtain ⟨v, rfl, q⟩ := hq; exact kk v h2 q)
theorem z_callSl (hN : (∀ w ∈ N, zNest w = true) ∧ zGr G) (hG : zGood T) (C : ZC p R s m args meth c cc nL T own E cl N G A X kc ks s.heap) {y : MethodName} {bytes : ByteArray} {maxL n i d2 w2 : Nat} {ret : Option FieldType} {As st0 : List Value} {post : Int64 → zH → Prop} (hc : Ct l X E cl N T G d2 w2 y bytes maxL ret As h (zPl post)) (hw : ∀ w ∈ zwS own i y bytes maxL ret, w ∈ T) (hfr : d2 + 1 ≤ R.frames) (hlo : 8 + (maxL + 11) + w2 ≤ R.locals) (hpl : y.cls ≠ "java/lang/invoke/MethodHandle" ∧ y.cls ≠ "java/lang/invoke/VarHandle" ∧ (parseMethodDescriptor y.desc).map (fun d => d.parameters.length) = some n) (hn : As.length = n) (hst : st0 = As.reverse ++ rest) (hW : (rest.map fun v => v.category).sum ≤ 8) (hd : decode cc pc = .ok (.invokestatic i, 3)) (kk : ∀ (v : Int64) (h2 : zH), post v h2 → ZW p l e R s m args below meth c Q X E cl A s.heap nL kc ks h2 (pc + 3) lv (.long v :: rest)) : ZW p l e R s m args below meth c Q X E cl A s.heap nL kc ks h (pc) lv (st0) :=
  z_callS hN hG C hc hw hfr hlo hpl hn hst hW hd (fun r h2 hq => by obtain ⟨v, rfl, q⟩ := hq; exact kk v h2 q)
theorem z_callSv (hN : (∀ w ∈ N, zNest w = true) ∧ zGr G) (hG : zGood T) (C : ZC p R s m args meth c cc nL T own E cl N G A X kc ks s.heap) {y : MethodName} {bytes : ByteArray} {maxL n i d2 w2 : Nat} {ret : Option FieldType} {As st0 : List Value} {post : zH → Prop} (hc : Ct l X E cl N T G d2 w2 y bytes maxL ret As h (zPv post)) (hw : ∀ w ∈ zwS own i y bytes maxL ret, w ∈ T) (hfr : d2 + 1 ≤ R.frames) (hlo : 8 + (maxL + 11) + w2 ≤ R.locals) (hpl : y.cls ≠ "java/lang/invoke/MethodHandle" ∧ y.cls ≠ "java/lang/invoke/VarHandle" ∧ (parseMethodDescriptor y.desc).map (fun d => d.parameters.length) = some n) (hn : As.length = n) (hst : st0 = As.reverse ++ rest) (hW : (rest.map fun v => v.category).sum ≤ 8) (hd : decode cc pc = .ok (.invokestatic i, 3)) (kk : ∀ (h2 : zH), post h2 → ZW p l e R s m args below meth c Q X E cl A s.heap nL kc ks h2 (pc + 3) lv (rest)) : ZW p l e R s m args below meth c Q X E cl A s.heap nL kc ks h (pc) lv (st0) :=
  z_callS hN hG C hc hw hfr hlo hpl hn hst hW hd (fun r h2 hq => by obtain ⟨rfl, q⟩ := hq; exact kk h2 q)
theorem z_callVN (hN : (∀ w ∈ N, zNest w = true) ∧ zGr G) (hG : zGood T) (C : ZC p R s m args meth c cc nL T own E cl N G A X kc ks s.heap) {y : MethodName} {bytes : ByteArray} {maxL n i d2 w2 : Nat} {ret : Option FieldType} {host : String} {b ci nf : Nat} {F : u_T} {As st0 : List Value} {post : Option Value → zH → Prop} (hc : Ct l X E cl N T G d2 w2 y bytes maxL ret (.ref (E.2.2.1 b) :: As) h post) (hw : ∀ w ∈ zwVN y bytes maxL ret, w ∈ T) (hl : Cond.methodLinkNest own i y host ∈ N) (hb : b < X.1) (hX : X.2.1 b = (0, ci)) (hcl : cl[ci]? = some (y.cls, F, nf)) (hfr : d2 + 1 ≤ R.frames) (hlo : 8 + (maxL + 11) + w2 ≤ R.locals) (hpl : y.cls ≠ "java/lang/invoke/MethodHandle" ∧ y.cls ≠ "java/lang/invoke/VarHandle" ∧ (parseMethodDescriptor y.desc).map (fun d => d.parameters.length) = some n) (hn : As.length = n) (hst : st0 = As.reverse ++ .ref (E.2.2.1 b) :: rest) (hW : (rest.map fun v => v.category).sum ≤ 8) (hd : decode cc pc = .ok (.invokevirtual i, 3)) (kk : ∀ (r : Option Value) (h2 : zH), post r h2 → ZW p l e R s m args below meth c Q X E cl A s.heap nL kc ks h2 (pc + 3) lv (r.toList ++ rest)) : ZW p l e R s m args below meth c Q X E cl A s.heap nL kc ks h (pc) lv (st0) := by
  intro H locs ls hP hD hS hL
  have hF := z_in C hD hS
  refine z_back (post := post) (fun q _ hq => hF q hq) hF hD hS hL ?_ kk (av := (.ref (E.2.2.1 b) :: As).toArray)
  subst hst
  obtain ⟨a1, a2, a3, a4⟩ := z_room (R := R) (maxL := maxL) (w2 := w2) hfr hlo
  have w_im := hw _ (List.mem_of_getElem? (i := 0) rfl)
  have w_se := hw _ (List.mem_of_getElem? (i := 1) rfl)
  have w_ini := hw _ (List.mem_of_getElem? (i := 2) rfl)
  have w_co := hw _ (List.mem_of_getElem? (i := 3) rfl)
  have hpre := z_pre (av := (.ref (E.2.2.1 b) :: As)) hN C hS hP hD
  have hrc := va_recv C.2.1 hP (ci := ci) (q0 := b) hcl (by rw [zw_at hb, ze_obj hX])
  have hpv : PreV s H y.cls (E.2.2.1 b) (va_Pc (.ref (E.2.2.1 b) :: As) (zB X E cl N G h H.size)) As := ⟨hpre.1, hrc, hpre.2⟩
  exact va_runVN (C := y.cls) (As := As) (rest := rest) C.1 (hc H.size) ⟨⟨⟨a1, a2, a3, a4, (hG.pay C.1.2.2.2.2 w_co), List.mem_cons_self⟩, C.1.2.2.2.2 _ w_co, C.1.2.2.2.2 _ w_ini, ⟨hpl.1, hpl.2.1⟩, z_lens hpl.2.2, va_Nw.use rfl (C.2.2.1 _ hl)⟩, C.1.2.2.2.2 _ w_im, C.1.2.2.2.2 _ w_se⟩ hpv rfl hn hL.1 rfl (lv_room hW) hd ⟨C.2.2.2.2.1.1, C.2.2.2.2.1.2⟩
theorem z_callVNi (hN : (∀ w ∈ N, zNest w = true) ∧ zGr G) (hG : zGood T) (C : ZC p R s m args meth c cc nL T own E cl N G A X kc ks s.heap) {y : MethodName} {bytes : ByteArray} {maxL n i d2 w2 : Nat} {ret : Option FieldType} {host : String} {b ci nf : Nat} {F : u_T} {As st0 : List Value} {post : Int32 → zH → Prop} (hc : Ct l X E cl N T G d2 w2 y bytes maxL ret (.ref (E.2.2.1 b) :: As) h (zPi post)) (hw : ∀ w ∈ zwVN y bytes maxL ret, w ∈ T) (hl : Cond.methodLinkNest own i y host ∈ N) (hb : b < X.1) (hX : X.2.1 b = (0, ci)) (hcl : cl[ci]? = some (y.cls, F, nf)) (hfr : d2 + 1 ≤ R.frames) (hlo : 8 + (maxL + 11) + w2 ≤ R.locals) (hpl : y.cls ≠ "java/lang/invoke/MethodHandle" ∧ y.cls ≠ "java/lang/invoke/VarHandle" ∧ (parseMethodDescriptor y.desc).map (fun d => d.parameters.length) = some n) (hn : As.length = n) (hst : st0 = As.reverse ++ .ref (E.2.2.1 b) :: rest) (hW : (rest.map fun v => v.category).sum ≤ 8) (hd : decode cc pc = .ok (.invokevirtual i, 3)) (kk : ∀ (v : Int32) (h2 : zH), post v h2 → ZW p l e R s m args below meth c Q X E cl A s.heap nL kc ks h2 (pc + 3) lv (.int v :: rest)) : ZW p l e R s m args below meth c Q X E cl A s.heap nL kc ks h (pc) lv (st0) :=
  z_callVN hN hG C hc hw hl hb hX hcl hfr hlo hpl hn hst hW hd (fun r h2 hq => by obtain ⟨v, rfl, q⟩ := hq; exact kk v h2 q)
theorem z_callVNl (hN : (∀ w ∈ N, zNest w = true) ∧ zGr G) (hG : zGood T) (C : ZC p R s m args meth c cc nL T own E cl N G A X kc ks s.heap) {y : MethodName} {bytes : ByteArray} {maxL n i d2 w2 : Nat} {ret : Option FieldType} {host : String} {b ci nf : Nat} {F : u_T} {As st0 : List Value} {post : Int64 → zH → Prop} (hc : Ct l X E cl N T G d2 w2 y bytes maxL ret (.ref (E.2.2.1 b) :: As) h (zPl post)) (hw : ∀ w ∈ zwVN y bytes maxL ret, w ∈ T) (hl : Cond.methodLinkNest own i y host ∈ N) (hb : b < X.1) (hX : X.2.1 b = (0, ci)) (hcl : cl[ci]? = some (y.cls, F, nf)) (hfr : d2 + 1 ≤ R.frames) (hlo : 8 + (maxL + 11) + w2 ≤ R.locals) (hpl : y.cls ≠ "java/lang/invoke/MethodHandle" ∧ y.cls ≠ "java/lang/invoke/VarHandle" ∧ (parseMethodDescriptor y.desc).map (fun d => d.parameters.length) = some n) (hn : As.length = n) (hst : st0 = As.reverse ++ .ref (E.2.2.1 b) :: rest) (hW : (rest.map fun v => v.category).sum ≤ 8) (hd : decode cc pc = .ok (.invokevirtual i, 3)) (kk : ∀ (v : Int64) (h2 : zH), post v h2 → ZW p l e R s m args below meth c Q X E cl A s.heap nL kc ks h2 (pc + 3) lv (.long v :: rest)) : ZW p l e R s m args below meth c Q X E cl A s.heap nL kc ks h (pc) lv (st0) :=
  z_callVN hN hG C hc hw hl hb hX hcl hfr hlo hpl hn hst hW hd (fun r h2 hq => by obtain ⟨v, rfl, q⟩ := hq; exact kk v h2 q)
theorem z_callVNv (hN : (∀ w ∈ N, zNest w = true) ∧ zGr G) (hG : zGood T) (C : ZC p R s m args meth c cc nL T own E cl N G A X kc ks s.heap) {y : MethodName} {bytes : ByteArray} {maxL n i d2 w2 : Nat} {ret : Option FieldType} {host : String} {b ci nf : Nat} {F : u_T} {As st0 : List Value} {post : zH → Prop} (hc : Ct l X E cl N T G d2 w2 y bytes maxL ret (.ref (E.2.2.1 b) :: As) h (zPv post)) (hw : ∀ w ∈ zwVN y bytes maxL ret, w ∈ T) (hl : Cond.methodLinkNest own i y host ∈ N) (hb : b < X.1) (hX : X.2.1 b = (0, ci)) (hcl : cl[ci]? = some (y.cls, F, nf)) (hfr : d2 + 1 ≤ R.frames) (hlo : 8 + (maxL + 11) + w2 ≤ R.locals) (hpl : y.cls ≠ "java/lang/invoke/MethodHandle" ∧ y.cls ≠ "java/lang/invoke/VarHandle" ∧ (parseMethodDescriptor y.desc).map (fun d => d.parameters.length) = some n) (hn : As.length = n) (hst : st0 = As.reverse ++ .ref (E.2.2.1 b) :: rest) (hW : (rest.map fun v => v.category).sum ≤ 8) (hd : decode cc pc = .ok (.invokevirtual i, 3)) (kk : ∀ (h2 : zH), post h2 → ZW p l e R s m args below meth c Q X E cl A s.heap nL kc ks h2 (pc + 3) lv (rest)) : ZW p l e R s m args below meth c Q X E cl A s.heap nL kc ks h (pc) lv (st0) :=
  z_callVN hN hG C hc hw hl hb hX hcl hfr hlo hpl hn hst hW hd (fun r h2 hq => by obtain ⟨rfl, q⟩ := hq; exact kk h2 q)
theorem z_callSN (hN : (∀ w ∈ N, zNest w = true) ∧ zGr G) (hG : zGood T) (C : ZC p R s m args meth c cc nL T own E cl N G A X kc ks s.heap) {y : MethodName} {bytes : ByteArray} {maxL n i d2 w2 : Nat} {ret : Option FieldType} {host : String} {As st0 : List Value} {post : Option Value → zH → Prop} (hc : Ct l X E cl N T G d2 w2 y bytes maxL ret As h post) (hw : ∀ w ∈ zwSN y bytes maxL ret, w ∈ T) (hl : Cond.methodLinkNest own i y host ∈ N) (hfr : d2 + 1 ≤ R.frames) (hlo : 8 + (maxL + 11) + w2 ≤ R.locals) (hpl : y.cls ≠ "java/lang/invoke/MethodHandle" ∧ y.cls ≠ "java/lang/invoke/VarHandle" ∧ (parseMethodDescriptor y.desc).map (fun d => d.parameters.length) = some n) (hn : As.length = n) (hst : st0 = As.reverse ++ rest) (hW : (rest.map fun v => v.category).sum ≤ 8) (hd : decode cc pc = .ok (.invokestatic i, 3)) (kk : ∀ (r : Option Value) (h2 : zH), post r h2 → ZW p l e R s m args below meth c Q X E cl A s.heap nL kc ks h2 (pc + 3) lv (r.toList ++ rest)) : ZW p l e R s m args below meth c Q X E cl A s.heap nL kc ks h (pc) lv (st0) := by
  intro H locs ls hP hD hS hL
  have hF := z_in C hD hS
  refine z_back (post := post) (fun q _ hq => hF q hq) hF hD hS hL ?_ kk (av := As.toArray)
  subst hst
  obtain ⟨a1, a2, a3, a4⟩ := z_room (R := R) (maxL := maxL) (w2 := w2) hfr hlo
  have w_stc := hw _ (List.mem_of_getElem? (i := 0) rfl)
  have w_ini := hw _ (List.mem_of_getElem? (i := 1) rfl)
  have w_co := hw _ (List.mem_of_getElem? (i := 2) rfl)
  have hpv := z_pre (av := As) hN C hS hP hD
  exact va_runSN (As := As) (rest := rest) C.1 (hc H.size) ⟨⟨⟨a1, a2, a3, a4, (hG.pay C.1.2.2.2.2 w_co), List.mem_cons_self⟩, C.1.2.2.2.2 _ w_co, C.1.2.2.2.2 _ w_ini, ⟨hpl.1, hpl.2.1⟩, z_lens hpl.2.2, va_Nw.use rfl (C.2.2.1 _ hl)⟩, C.1.2.2.2.2 _ w_stc, trivial⟩ hpv rfl hn hL.1 rfl (lv_room hW) hd ⟨C.2.2.2.2.1.1, C.2.2.2.2.1.2⟩
theorem z_callSNi (hN : (∀ w ∈ N, zNest w = true) ∧ zGr G) (hG : zGood T) (C : ZC p R s m args meth c cc nL T own E cl N G A X kc ks s.heap) {y : MethodName} {bytes : ByteArray} {maxL n i d2 w2 : Nat} {ret : Option FieldType} {host : String} {As st0 : List Value} {post : Int32 → zH → Prop} (hc : Ct l X E cl N T G d2 w2 y bytes maxL ret As h (zPi post)) (hw : ∀ w ∈ zwSN y bytes maxL ret, w ∈ T) (hl : Cond.methodLinkNest own i y host ∈ N) (hfr : d2 + 1 ≤ R.frames) (hlo : 8 + (maxL + 11) + w2 ≤ R.locals) (hpl : y.cls ≠ "java/lang/invoke/MethodHandle" ∧ y.cls ≠ "java/lang/invoke/VarHandle" ∧ (parseMethodDescriptor y.desc).map (fun d => d.parameters.length) = some n) (hn : As.length = n) (hst : st0 = As.reverse ++ rest) (hW : (rest.map fun v => v.category).sum ≤ 8) (hd : decode cc pc = .ok (.invokestatic i, 3)) (kk : ∀ (v : Int32) (h2 : zH), post v h2 → ZW p l e R s m args below meth c Q X E cl A s.heap nL kc ks h2 (pc + 3) lv (.int v :: rest)) : ZW p l e R s m args below meth c Q X E cl A s.heap nL kc ks h (pc) lv (st0) :=
  z_callSN hN hG C hc hw hl hfr hlo hpl hn hst hW hd (fun r h2 hq => by obtain ⟨v, rfl, q⟩ := hq; exact kk v h2 q)
theorem z_callSNl (hN : (∀ w ∈ N, zNest w = true) ∧ zGr G) (hG : zGood T) (C : ZC p R s m args meth c cc nL T own E cl N G A X kc ks s.heap) {y : MethodName} {bytes : ByteArray} {maxL n i d2 w2 : Nat} {ret : Option FieldType} {host : String} {As st0 : List Value} {post : Int64 → zH → Prop} (hc : Ct l X E cl N T G d2 w2 y bytes maxL ret As h (zPl post)) (hw : ∀ w ∈ zwSN y bytes maxL ret, w ∈ T) (hl : Cond.methodLinkNest own i y host ∈ N) (hfr : d2 + 1 ≤ R.frames) (hlo : 8 + (maxL + 11) + w2 ≤ R.locals) (hpl : y.cls ≠ "java/lang/invoke/MethodHandle" ∧ y.cls ≠ "java/lang/invoke/VarHandle" ∧ (parseMethodDescriptor y.desc).map (fun d => d.parameters.length) = some n) (hn : As.length = n) (hst : st0 = As.reverse ++ rest) (hW : (rest.map fun v => v.category).sum ≤ 8) (hd : decode cc pc = .ok (.invokestatic i, 3)) (kk : ∀ (v : Int64) (h2 : zH), post v h2 → ZW p l e R s m args below meth c Q X E cl A s.heap nL kc ks h2 (pc + 3) lv (.long v :: rest)) : ZW p l e R s m args below meth c Q X E cl A s.heap nL kc ks h (pc) lv (st0) :=
  z_callSN hN hG C hc hw hl hfr hlo hpl hn hst hW hd (fun r h2 hq => by obtain ⟨v, rfl, q⟩ := hq; exact kk v h2 q)
theorem z_callSNv (hN : (∀ w ∈ N, zNest w = true) ∧ zGr G) (hG : zGood T) (C : ZC p R s m args meth c cc nL T own E cl N G A X kc ks s.heap) {y : MethodName} {bytes : ByteArray} {maxL n i d2 w2 : Nat} {ret : Option FieldType} {host : String} {As st0 : List Value} {post : zH → Prop} (hc : Ct l X E cl N T G d2 w2 y bytes maxL ret As h (zPv post)) (hw : ∀ w ∈ zwSN y bytes maxL ret, w ∈ T) (hl : Cond.methodLinkNest own i y host ∈ N) (hfr : d2 + 1 ≤ R.frames) (hlo : 8 + (maxL + 11) + w2 ≤ R.locals) (hpl : y.cls ≠ "java/lang/invoke/MethodHandle" ∧ y.cls ≠ "java/lang/invoke/VarHandle" ∧ (parseMethodDescriptor y.desc).map (fun d => d.parameters.length) = some n) (hn : As.length = n) (hst : st0 = As.reverse ++ rest) (hW : (rest.map fun v => v.category).sum ≤ 8) (hd : decode cc pc = .ok (.invokestatic i, 3)) (kk : ∀ (h2 : zH), post h2 → ZW p l e R s m args below meth c Q X E cl A s.heap nL kc ks h2 (pc + 3) lv (rest)) : ZW p l e R s m args below meth c Q X E cl A s.heap nL kc ks h (pc) lv (st0) :=
  z_callSN hN hG C hc hw hl hfr hlo hpl hn hst hW hd (fun r h2 hq => by obtain ⟨rfl, q⟩ := hq; exact kk h2 q)
end ZK
end
section
def zT : List Cond := lw_tbl.filter goodWord
theorem zT_good : zGood zT := fun w hw => good_of_word (List.mem_filter.mp hw).2
theorem zt_mem {w : Cond} (i : Nat) (h : tables_1[i]? = some w) (hg : goodWord w = true) : w ∈ zT := List.mem_filter.mpr ⟨List.mem_append_right _ (List.mem_of_getElem? h), hg⟩
theorem zt_m1 {w : Cond} (i : Nat) (h : tables_1_1[i]? = some w) (hg : goodWord w = true) : w ∈ zT := List.mem_filter.mpr ⟨List.mem_append_right _ (List.mem_append_left _ (List.mem_of_getElem? h)), hg⟩
theorem zt_m2 {w : Cond} (i : Nat) (h : tables_1_2[i]? = some w) (hg : goodWord w = true) : w ∈ zT := List.mem_filter.mpr ⟨List.mem_append_right _ (List.mem_append_right _ (List.mem_append_left _ (List.mem_of_getElem? h))), hg⟩
theorem zt_m3 {w : Cond} (i : Nat) (h : tables_1_3[i]? = some w) (hg : goodWord w = true) : w ∈ zT := List.mem_filter.mpr ⟨List.mem_append_right _ (List.mem_append_right _ (List.mem_append_right _ (List.mem_append_left _ (List.mem_of_getElem? h)))), hg⟩
theorem zt_m4 {w : Cond} (i : Nat) (h : tables_1_4[i]? = some w) (hg : goodWord w = true) : w ∈ zT := List.mem_filter.mpr ⟨List.mem_append_right _ (List.mem_append_right _ (List.mem_append_right _ (List.mem_append_right _ (List.mem_append_left _ (List.mem_of_getElem? h))))), hg⟩
theorem zt_m5 {w : Cond} (i : Nat) (h : tables_1_5[i]? = some w) (hg : goodWord w = true) : w ∈ zT := List.mem_filter.mpr ⟨List.mem_append_right _ (List.mem_append_right _ (List.mem_append_right _ (List.mem_append_right _ (List.mem_append_right _ (List.mem_of_getElem? h))))), hg⟩
theorem zt_sel {q : MethodName × Nat} (i : Nat) (h : lw_privs[i]? = some q) : Cond.selects q.1.cls q.1 q.1 ∈ zT := List.mem_filter.mpr ⟨List.mem_append_left _ (List.mem_map.mpr ⟨q, List.mem_of_getElem? h, rfl⟩), rfl⟩
def cn_R : String := "RangeReckoner"
def cf_R : u_T := fun k => match k with
  | 0 => ("RangeReckoner", "variables", "LRangeReckoner$Variables;", true)
  | 1 => ("RangeReckoner", "tape", "LRangeReckoner$Tape;", true)
  | 2 => ("RangeReckoner", "parser", "LRangeReckoner$Parser;", true)
  | 3 => ("RangeReckoner", "term", "LRangeReckoner$Term;", false)
  | _ => ("RangeReckoner", "spare", "LRangeReckoner$Term;", false)
def ct_R : Nat → FieldType := fun k => match k with
  | 0 => .object "RangeReckoner$Variables"
  | 1 => .object "RangeReckoner$Tape"
  | 2 => .object "RangeReckoner$Parser"
  | 3 => .object "RangeReckoner$Term"
  | _ => .object "RangeReckoner$Term"
theorem nm_R : ∀ a, a < 5 → ∀ b, b < 5 → a ≠ b → (cf_R a).2.1 ≠ (cf_R b).2.1 := by decide +kernel
theorem ty_R : ∀ k, k < 5 → parseFieldDescriptor (cf_R k).2.2.1 = some (ct_R k) := by decide +kernel
theorem in_R : ∀ w ∈ u_ws cn_R cf_R 5, w ∈ zT := by
  show ∀ w ∈ [u_lay cn_R cf_R 0, u_lay cn_R cf_R 1, u_lay cn_R cf_R 2, u_lay cn_R cf_R 3, u_lay cn_R cf_R 4], w ∈ zT
  exact List.forall_mem_cons.mpr ⟨zt_m1 215 rfl rfl, List.forall_mem_cons.mpr ⟨zt_m1 217 rfl rfl, List.forall_mem_cons.mpr ⟨zt_m1 219 rfl rfl, List.forall_mem_cons.mpr ⟨zt_m1 221 rfl rfl, List.forall_mem_cons.mpr ⟨zt_m1 223 rfl rfl, fun _ h => absurd h List.not_mem_nil⟩⟩⟩⟩⟩
def cn_V : String := "RangeReckoner$Variables"
def cf_V : u_T := fun k => match k with
  | 0 => ("RangeReckoner$Variables", "low", "[I", true)
  | 1 => ("RangeReckoner$Variables", "high", "[I", true)
  | 2 => ("RangeReckoner$Variables", "worth", "[I", true)
  | _ => ("RangeReckoner$Variables", "size", "I", false)
def ct_V : Nat → FieldType := fun k => match k with
  | 0 => .array .int
  | 1 => .array .int
  | 2 => .array .int
  | _ => .int
theorem nm_V : ∀ a, a < 4 → ∀ b, b < 4 → a ≠ b → (cf_V a).2.1 ≠ (cf_V b).2.1 := by decide +kernel
theorem ty_V : ∀ k, k < 4 → parseFieldDescriptor (cf_V k).2.2.1 = some (ct_V k) := by decide +kernel
theorem in_V : ∀ w ∈ u_ws cn_V cf_V 4, w ∈ zT := by
  show ∀ w ∈ [u_lay cn_V cf_V 0, u_lay cn_V cf_V 1, u_lay cn_V cf_V 2, u_lay cn_V cf_V 3], w ∈ zT
  exact List.forall_mem_cons.mpr ⟨zt_m1 38 rfl rfl, List.forall_mem_cons.mpr ⟨zt_m1 40 rfl rfl, List.forall_mem_cons.mpr ⟨zt_m1 42 rfl rfl, List.forall_mem_cons.mpr ⟨zt_m1 44 rfl rfl, fun _ h => absurd h List.not_mem_nil⟩⟩⟩⟩
def cn_A : String := "RangeReckoner$Tape"
def cf_A : u_T := fun k => match k with
  | 0 => ("RangeReckoner$Tape", "signs", "[I", true)
  | _ => ("RangeReckoner$Tape", "length", "I", false)
def ct_A : Nat → FieldType := fun k => match k with
  | 0 => .array .int
  | _ => .int
theorem nm_A : ∀ a, a < 2 → ∀ b, b < 2 → a ≠ b → (cf_A a).2.1 ≠ (cf_A b).2.1 := by decide +kernel
theorem ty_A : ∀ k, k < 2 → parseFieldDescriptor (cf_A k).2.2.1 = some (ct_A k) := by decide +kernel
theorem in_A : ∀ w ∈ u_ws cn_A cf_A 2, w ∈ zT := by
  show ∀ w ∈ [u_lay cn_A cf_A 0, u_lay cn_A cf_A 1], w ∈ zT
  exact List.forall_mem_cons.mpr ⟨zt_m1 58 rfl rfl, List.forall_mem_cons.mpr ⟨zt_m1 60 rfl rfl, fun _ h => absurd h List.not_mem_nil⟩⟩
def cn_T : String := "RangeReckoner$Term"
def cf_T : u_T := fun k => match k with
  | 0 => ("RangeReckoner$Term", "operator", "[I", true)
  | 1 => ("RangeReckoner$Term", "place", "[I", true)
  | 2 => ("RangeReckoner$Term", "kind", "[I", true)
  | 3 => ("RangeReckoner$Term", "low", "[I", true)
  | 4 => ("RangeReckoner$Term", "high", "[I", true)
  | 5 => ("RangeReckoner$Term", "left", "[I", true)
  | 6 => ("RangeReckoner$Term", "right", "[I", true)
  | 7 => ("RangeReckoner$Term", "extra", "[I", true)
  | 8 => ("RangeReckoner$Term", "depth", "[I", true)
  | 9 => ("RangeReckoner$Term", "worth", "[J", true)
  | _ => ("RangeReckoner$Term", "size", "I", false)
def ct_T : Nat → FieldType := fun k => match k with
  | 0 => .array .int
  | 1 => .array .int
  | 2 => .array .int
  | 3 => .array .int
  | 4 => .array .int
  | 5 => .array .int
  | 6 => .array .int
  | 7 => .array .int
  | 8 => .array .int
  | 9 => .array .long
  | _ => .int
theorem nm_T : ∀ a, a < 11 → ∀ b, b < 11 → a ≠ b → (cf_T a).2.1 ≠ (cf_T b).2.1 := by decide +kernel
theorem ty_T : ∀ k, k < 11 → parseFieldDescriptor (cf_T k).2.2.1 = some (ct_T k) := by decide +kernel
theorem in_T : ∀ w ∈ u_ws cn_T cf_T 11, w ∈ zT := by
  show ∀ w ∈ [u_lay cn_T cf_T 0, u_lay cn_T cf_T 1, u_lay cn_T cf_T 2, u_lay cn_T cf_T 3, u_lay cn_T cf_T 4, u_lay cn_T cf_T 5, u_lay cn_T cf_T 6, u_lay cn_T cf_T 7, u_lay cn_T cf_T 8, u_lay cn_T cf_T 9, u_lay cn_T cf_T 10], w ∈ zT
  exact List.forall_mem_cons.mpr ⟨zt_m1 82 rfl rfl, List.forall_mem_cons.mpr ⟨zt_m1 84 rfl rfl, List.forall_mem_cons.mpr ⟨zt_m1 86 rfl rfl, List.forall_mem_cons.mpr ⟨zt_m1 88 rfl rfl, List.forall_mem_cons.mpr ⟨zt_m1 90 rfl rfl, List.forall_mem_cons.mpr ⟨zt_m1 92 rfl rfl, List.forall_mem_cons.mpr ⟨zt_m1 94 rfl rfl, List.forall_mem_cons.mpr ⟨zt_m1 96 rfl rfl, List.forall_mem_cons.mpr ⟨zt_m1 98 rfl rfl, List.forall_mem_cons.mpr ⟨zt_m1 100 rfl rfl, List.forall_mem_cons.mpr ⟨zt_m1 102 rfl rfl, fun _ h => absurd h List.not_mem_nil⟩⟩⟩⟩⟩⟩⟩⟩⟩⟩⟩
def cn_P : String := "RangeReckoner$Parser"
def cf_P : u_T := fun k => match k with
  | 0 => ("RangeReckoner$Parser", "variables", "LRangeReckoner$Variables;", true)
  | 1 => ("RangeReckoner$Parser", "tokens", "LRangeReckoner$Tokens;", true)
  | 2 => ("RangeReckoner$Parser", "pending", "LRangeReckoner$Pending;", true)
  | 3 => ("RangeReckoner$Parser", "loose", "[I", true)
  | 4 => ("RangeReckoner$Parser", "looseSize", "I", false)
  | 5 => ("RangeReckoner$Parser", "first", "LRangeReckoner$Range;", true)
  | 6 => ("RangeReckoner$Parser", "second", "LRangeReckoner$Range;", true)
  | 7 => ("RangeReckoner$Parser", "given", "LRangeReckoner$Range;", true)
  | 8 => ("RangeReckoner$Parser", "term", "LRangeReckoner$Term;", false)
  | 9 => ("RangeReckoner$Parser", "wanted", "I", false)
  | _ => ("RangeReckoner$Parser", "fault", "I", false)
def ct_P : Nat → FieldType := fun k => match k with
  | 0 => .object "RangeReckoner$Variables"
  | 1 => .object "RangeReckoner$Tokens"
  | 2 => .object "RangeReckoner$Pending"
  | 3 => .array .int
  | 4 => .int
  | 5 => .object "RangeReckoner$Range"
  | 6 => .object "RangeReckoner$Range"
  | 7 => .object "RangeReckoner$Range"
  | 8 => .object "RangeReckoner$Term"
  | 9 => .int
  | _ => .int
theorem nm_P : ∀ a, a < 11 → ∀ b, b < 11 → a ≠ b → (cf_P a).2.1 ≠ (cf_P b).2.1 := by decide +kernel
theorem ty_P : ∀ k, k < 11 → parseFieldDescriptor (cf_P k).2.2.1 = some (ct_P k) := by decide +kernel
theorem in_P : ∀ w ∈ u_ws cn_P cf_P 11, w ∈ zT := by
  show ∀ w ∈ [u_lay cn_P cf_P 0, u_lay cn_P cf_P 1, u_lay cn_P cf_P 2, u_lay cn_P cf_P 3, u_lay cn_P cf_P 4, u_lay cn_P cf_P 5, u_lay cn_P cf_P 6, u_lay cn_P cf_P 7, u_lay cn_P cf_P 8, u_lay cn_P cf_P 9, u_lay cn_P cf_P 10], w ∈ zT
  exact List.forall_mem_cons.mpr ⟨zt_m1 187 rfl rfl, List.forall_mem_cons.mpr ⟨zt_m1 189 rfl rfl, List.forall_mem_cons.mpr ⟨zt_m1 191 rfl rfl, List.forall_mem_cons.mpr ⟨zt_m1 193 rfl rfl, List.forall_mem_cons.mpr ⟨zt_m1 195 rfl rfl, List.forall_mem_cons.mpr ⟨zt_m1 197 rfl rfl, List.forall_mem_cons.mpr ⟨zt_m1 199 rfl rfl, List.forall_mem_cons.mpr ⟨zt_m1 201 rfl rfl, List.forall_mem_cons.mpr ⟨zt_m1 203 rfl rfl, List.forall_mem_cons.mpr ⟨zt_m1 205 rfl rfl, List.forall_mem_cons.mpr ⟨zt_m1 207 rfl rfl, fun _ h => absurd h List.not_mem_nil⟩⟩⟩⟩⟩⟩⟩⟩⟩⟩⟩
def cn_K : String := "RangeReckoner$Tokens"
def cf_K : u_T := fun k => match k with
  | 0 => ("RangeReckoner$Tokens", "tape", "LRangeReckoner$Tape;", true)
  | 1 => ("RangeReckoner$Tokens", "next", "I", false)
  | 2 => ("RangeReckoner$Tokens", "token", "I", false)
  | 3 => ("RangeReckoner$Tokens", "place", "I", false)
  | _ => ("RangeReckoner$Tokens", "number", "I", false)
def ct_K : Nat → FieldType := fun k => match k with
  | 0 => .object "RangeReckoner$Tape"
  | 1 => .int
  | 2 => .int
  | 3 => .int
  | _ => .int
theorem nm_K : ∀ a, a < 5 → ∀ b, b < 5 → a ≠ b → (cf_K a).2.1 ≠ (cf_K b).2.1 := by decide +kernel
theorem ty_K : ∀ k, k < 5 → parseFieldDescriptor (cf_K k).2.2.1 = some (ct_K k) := by decide +kernel
theorem in_K : ∀ w ∈ u_ws cn_K cf_K 5, w ∈ zT := by
  show ∀ w ∈ [u_lay cn_K cf_K 0, u_lay cn_K cf_K 1, u_lay cn_K cf_K 2, u_lay cn_K cf_K 3, u_lay cn_K cf_K 4], w ∈ zT
  exact List.forall_mem_cons.mpr ⟨zt_m1 165 rfl rfl, List.forall_mem_cons.mpr ⟨zt_m1 167 rfl rfl, List.forall_mem_cons.mpr ⟨zt_m1 169 rfl rfl, List.forall_mem_cons.mpr ⟨zt_m1 171 rfl rfl, List.forall_mem_cons.mpr ⟨zt_m1 173 rfl rfl, fun _ h => absurd h List.not_mem_nil⟩⟩⟩⟩⟩
def cn_G : String := "RangeReckoner$Pending"
def cf_G : u_T := fun k => match k with
  | 0 => ("RangeReckoner$Pending", "code", "[I", true)
  | 1 => ("RangeReckoner$Pending", "place", "[I", true)
  | 2 => ("RangeReckoner$Pending", "awaited", "[I", true)
  | 3 => ("RangeReckoner$Pending", "size", "I", false)
  | _ => ("RangeReckoner$Pending", "nested", "I", false)
def ct_G : Nat → FieldType := fun k => match k with
  | 0 => .array .int
  | 1 => .array .int
  | 2 => .array .int
  | 3 => .int
  | _ => .int
theorem nm_G : ∀ a, a < 5 → ∀ b, b < 5 → a ≠ b → (cf_G a).2.1 ≠ (cf_G b).2.1 := by decide +kernel
theorem ty_G : ∀ k, k < 5 → parseFieldDescriptor (cf_G k).2.2.1 = some (ct_G k) := by decide +kernel
theorem in_G : ∀ w ∈ u_ws cn_G cf_G 5, w ∈ zT := by
  show ∀ w ∈ [u_lay cn_G cf_G 0, u_lay cn_G cf_G 1, u_lay cn_G cf_G 2, u_lay cn_G cf_G 3, u_lay cn_G cf_G 4], w ∈ zT
  exact List.forall_mem_cons.mpr ⟨zt_m1 125 rfl rfl, List.forall_mem_cons.mpr ⟨zt_m1 127 rfl rfl, List.forall_mem_cons.mpr ⟨zt_m1 129 rfl rfl, List.forall_mem_cons.mpr ⟨zt_m1 131 rfl rfl, List.forall_mem_cons.mpr ⟨zt_m1 133 rfl rfl, fun _ h => absurd h List.not_mem_nil⟩⟩⟩⟩⟩
def cn_N : String := "RangeReckoner$Range"
def cf_N : u_T := fun k => match k with
  | 0 => ("RangeReckoner$Range", "low", "J", false)
  | _ => ("RangeReckoner$Range", "high", "J", false)
def ct_N : Nat → FieldType := fun k => match k with
  | 0 => .long
  | _ => .long
theorem nm_N : ∀ a, a < 2 → ∀ b, b < 2 → a ≠ b → (cf_N a).2.1 ≠ (cf_N b).2.1 := by decide +kernel
theorem ty_N : ∀ k, k < 2 → parseFieldDescriptor (cf_N k).2.2.1 = some (ct_N k) := by decide +kernel
theorem in_N : ∀ w ∈ u_ws cn_N cf_N 2, w ∈ zT := by
  show ∀ w ∈ [u_lay cn_N cf_N 0, u_lay cn_N cf_N 1], w ∈ zT
  exact List.forall_mem_cons.mpr ⟨zt_m1 146 rfl rfl, List.forall_mem_cons.mpr ⟨zt_m1 148 rfl rfl, fun _ h => absurd h List.not_mem_nil⟩⟩
def cn_M : String := "RangeReckonerModel"
def cf_M : u_T := fun k => match k with
  | 0 => ("RangeReckonerModel", "thrown", "I", false)
  | 1 => ("RangeReckonerModel", "variables", "I", false)
  | 2 => ("RangeReckonerModel", "low", "[I", true)
  | 3 => ("RangeReckonerModel", "high", "[I", true)
  | 4 => ("RangeReckonerModel", "given", "[I", true)
  | 5 => ("RangeReckonerModel", "tape", "[I", true)
  | 6 => ("RangeReckonerModel", "taped", "I", false)
  | 7 => ("RangeReckonerModel", "size", "I", false)
  | 8 => ("RangeReckonerModel", "tk", "I", false)
  | 9 => ("RangeReckonerModel", "from", "I", false)
  | 10 => ("RangeReckonerModel", "to", "I", false)
  | 11 => ("RangeReckonerModel", "number", "J", false)
  | 12 => ("RangeReckonerModel", "ptOp", "[I", true)
  | 13 => ("RangeReckonerModel", "ptPlace", "[I", true)
  | 14 => ("RangeReckonerModel", "ptKind", "[I", true)
  | 15 => ("RangeReckonerModel", "ptLow", "[J", true)
  | 16 => ("RangeReckonerModel", "ptHigh", "[J", true)
  | 17 => ("RangeReckonerModel", "ptA", "[I", true)
  | 18 => ("RangeReckonerModel", "ptB", "[I", true)
  | 19 => ("RangeReckonerModel", "ptC", "[I", true)
  | 20 => ("RangeReckonerModel", "ptDeep", "[I", true)
  | 21 => ("RangeReckonerModel", "ptNumber", "[J", true)
  | 22 => ("RangeReckonerModel", "read", "I", false)
  | 23 => ("RangeReckonerModel", "many", "I", false)
  | 24 => ("RangeReckonerModel", "fault", "I", false)
  | 25 => ("RangeReckonerModel", "wtOp", "[I", true)
  | 26 => ("RangeReckonerModel", "wtPlace", "[I", true)
  | 27 => ("RangeReckonerModel", "wtRead", "[I", true)
  | 28 => ("RangeReckonerModel", "waits", "I", false)
  | 29 => ("RangeReckonerModel", "pile", "[I", true)
  | 30 => ("RangeReckonerModel", "piled", "I", false)
  | 31 => ("RangeReckonerModel", "deep", "I", false)
  | 32 => ("RangeReckonerModel", "least", "J", false)
  | 33 => ("RangeReckonerModel", "greatest", "J", false)
  | _ => ("RangeReckonerModel", "worth", "[J", true)
def ct_M : Nat → FieldType := fun k => match k with
  | 0 => .int
  | 1 => .int
  | 2 => .array .int
  | 3 => .array .int
  | 4 => .array .int
  | 5 => .array .int
  | 6 => .int
  | 7 => .int
  | 8 => .int
  | 9 => .int
  | 10 => .int
  | 11 => .long
  | 12 => .array .int
  | 13 => .array .int
  | 14 => .array .int
  | 15 => .array .long
  | 16 => .array .long
  | 17 => .array .int
  | 18 => .array .int
  | 19 => .array .int
  | 20 => .array .int
  | 21 => .array .long
  | 22 => .int
  | 23 => .int
  | 24 => .int
  | 25 => .array .int
  | 26 => .array .int
  | 27 => .array .int
  | 28 => .int
  | 29 => .array .int
  | 30 => .int
  | 31 => .int
  | 32 => .long
  | 33 => .long
  | _ => .array .long
theorem nm_M : ∀ a, a < 35 → ∀ b, b < 35 → a ≠ b → (cf_M a).2.1 ≠ (cf_M b).2.1 := by decide +kernel
theorem ty_M : ∀ k, k < 35 → parseFieldDescriptor (cf_M k).2.2.1 = some (ct_M k) := by decide +kernel
theorem in_M : ∀ w ∈ u_ws cn_M cf_M 35, w ∈ zT := by
  show ∀ w ∈ [u_lay cn_M cf_M 0, u_lay cn_M cf_M 1, u_lay cn_M cf_M 2, u_lay cn_M cf_M 3, u_lay cn_M cf_M 4, u_lay cn_M cf_M 5, u_lay cn_M cf_M 6, u_lay cn_M cf_M 7, u_lay cn_M cf_M 8, u_lay cn_M cf_M 9, u_lay cn_M cf_M 10, u_lay cn_M cf_M 11, u_lay cn_M cf_M 12, u_lay cn_M cf_M 13, u_lay cn_M cf_M 14, u_lay cn_M cf_M 15, u_lay cn_M cf_M 16, u_lay cn_M cf_M 17, u_lay cn_M cf_M 18, u_lay cn_M cf_M 19, u_lay cn_M cf_M 20, u_lay cn_M cf_M 21, u_lay cn_M cf_M 22, u_lay cn_M cf_M 23, u_lay cn_M cf_M 24, u_lay cn_M cf_M 25, u_lay cn_M cf_M 26, u_lay cn_M cf_M 27, u_lay cn_M cf_M 28, u_lay cn_M cf_M 29, u_lay cn_M cf_M 30, u_lay cn_M cf_M 31, u_lay cn_M cf_M 32, u_lay cn_M cf_M 33, u_lay cn_M cf_M 34], w ∈ zT
  exact List.forall_mem_cons.mpr ⟨zt_m4 36 rfl rfl, List.forall_mem_cons.mpr ⟨zt_m4 38 rfl rfl, List.forall_mem_cons.mpr ⟨zt_m4 40 rfl rfl, List.forall_mem_cons.mpr ⟨zt_m4 42 rfl rfl, List.forall_mem_cons.mpr ⟨zt_m4 44 rfl rfl, List.forall_mem_cons.mpr ⟨zt_m4 46 rfl rfl, List.forall_mem_cons.mpr ⟨zt_m4 48 rfl rfl, List.forall_mem_cons.mpr ⟨zt_m4 50 rfl rfl, List.forall_mem_cons.mpr ⟨zt_m4 52 rfl rfl, List.forall_mem_cons.mpr ⟨zt_m4 54 rfl rfl, List.forall_mem_cons.mpr ⟨zt_m4 56 rfl rfl, List.forall_mem_cons.mpr ⟨zt_m4 58 rfl rfl, List.forall_mem_cons.mpr ⟨zt_m4 60 rfl rfl, List.forall_mem_cons.mpr ⟨zt_m4 62 rfl rfl, List.forall_mem_cons.mpr ⟨zt_m4 64 rfl rfl, List.forall_mem_cons.mpr ⟨zt_m4 66 rfl rfl, List.forall_mem_cons.mpr ⟨zt_m4 68 rfl rfl, List.forall_mem_cons.mpr ⟨zt_m4 70 rfl rfl, List.forall_mem_cons.mpr ⟨zt_m4 72 rfl rfl, List.forall_mem_cons.mpr ⟨zt_m4 74 rfl rfl, List.forall_mem_cons.mpr ⟨zt_m4 76 rfl rfl, List.forall_mem_cons.mpr ⟨zt_m4 78 rfl rfl, List.forall_mem_cons.mpr ⟨zt_m4 80 rfl rfl, List.forall_mem_cons.mpr ⟨zt_m4 82 rfl rfl, List.forall_mem_cons.mpr ⟨zt_m4 84 rfl rfl, List.forall_mem_cons.mpr ⟨zt_m4 86 rfl rfl, List.forall_mem_cons.mpr ⟨zt_m4 88 rfl rfl, List.forall_mem_cons.mpr ⟨zt_m4 90 rfl rfl, List.forall_mem_cons.mpr ⟨zt_m4 92 rfl rfl, List.forall_mem_cons.mpr ⟨zt_m4 94 rfl rfl, List.forall_mem_cons.mpr ⟨zt_m4 96 rfl rfl, List.forall_mem_cons.mpr ⟨zt_m4 98 rfl rfl, List.forall_mem_cons.mpr ⟨zt_m4 100 rfl rfl, List.forall_mem_cons.mpr ⟨zt_m4 102 rfl rfl, List.forall_mem_cons.mpr ⟨zt_m4 104 rfl rfl, fun _ h => absurd h List.not_mem_nil⟩⟩⟩⟩⟩⟩⟩⟩⟩⟩⟩⟩⟩⟩⟩⟩⟩⟩⟩⟩⟩⟩⟩⟩⟩⟩⟩⟩⟩⟩⟩⟩⟩⟩⟩
abbrev xcl : List vw_C := [(cn_R, cf_R, 5), (cn_V, cf_V, 4), (cn_A, cf_A, 2), (cn_T, cf_T, 11), (cn_P, cf_P, 11), (cn_K, cf_K, 5), (cn_G, cf_G, 5), (cn_N, cf_N, 2), (cn_M, cf_M, 35)]
def xkd : List (Nat × Nat) := [(0, 0), (0, 1), (1, 20), (1, 20), (1, 20), (0, 2), (1, 400), (0, 3), (1, 100), (1, 100), (1, 100), (1, 100), (1, 100), (1, 100), (1, 100), (1, 100), (1, 100), (2, 100), (0, 3), (1, 100), (1, 100), (1, 100), (1, 100), (1, 100), (1, 100), (1, 100), (1, 100), (1, 100), (2, 100), (0, 4), (0, 5), (0, 6), (1, 197), (1, 197), (1, 197), (1, 100), (0, 7), (0, 7), (0, 7), (0, 8), (1, 20), (1, 20), (1, 20), (1, 400), (1, 200), (1, 200), (1, 200), (2, 200), (2, 200), (1, 200), (1, 200), (1, 200), (1, 200), (2, 200), (1, 300), (1, 300), (1, 300), (1, 300), (2, 100), (2, 1)]
def xsl : List (List (Nat × Nat)) := [[(3, 1), (3, 5), (3, 29), (4, 0), (4, 0)], [(3, 2), (3, 3), (3, 4), (0, 0)], [(3, 6), (0, 0)], [(2, 1), (2, 2), (2, 3), (2, 4), (2, 5), (2, 6), (2, 7), (2, 8), (2, 9), (2, 10), (0, 0)], [(3, 1), (3, 30), (3, 31), (3, 35), (0, 0), (3, 36), (3, 37), (3, 38), (4, 0), (0, 0), (0, 0)], [(3, 5), (0, 0), (0, 0), (0, 0), (0, 0)], [(3, 32), (3, 33), (3, 34), (0, 0), (0, 0)], [(1, 0), (1, 0)], [(0, 0), (0, 0), (3, 40), (3, 41), (3, 42), (3, 43), (0, 0), (0, 0), (0, 0), (0, 0), (0, 0), (1, 0), (3, 44), (3, 45), (3, 46), (3, 47), (3, 48), (3, 49), (3, 50), (3, 51), (3, 52), (3, 53), (0, 0), (0, 0), (0, 0), (3, 54), (3, 55), (3, 56), (0, 0), (3, 57), (0, 0), (0, 0), (1, 0), (1, 0), (3, 58)]]
def xX : zX := (60, fun k => xkd.getD k (9, 0), fun c => xsl.getD c [])
def xTm (k : Nat) : Prop := k = 7 ∨ k = 18
def xRg (k : Nat) : Prop := k = 36 ∨ k = 37 ∨ k = 38
def xRow (k n : Nat) : Prop := k < xX.1 ∧ xX.2.1 k = (1, n)
theorem xTm_l0 {k : Nat} (h : xTm k) : k < xX.1 := by rcases h with rfl | rfl <;> decide
theorem xTm_l {k j : Nat} (h : xTm k) (hj : j < 11) : k + j < xX.1 := by rcases h with rfl | rfl <;> (show _ < 60; omega)
theorem xTm_0 {k : Nat} (h : xTm k) : xX.2.1 k = (0, 3) := by rcases h with rfl | rfl <;> rfl
theorem xRg_l0 {k : Nat} (h : xRg k) : k < xX.1 := by rcases h with rfl | rfl | rfl <;> decide
theorem xRg_0 {k : Nat} (h : xRg k) : xX.2.1 k = (0, 7) := by rcases h with rfl | rfl | rfl <;> rfl
theorem xTm_1 {k : Nat} (h : xTm k) : xX.2.1 (k + 1) = (1, 100) := by rcases h with rfl | rfl <;> rfl
theorem xTm_2 {k : Nat} (h : xTm k) : xX.2.1 (k + 2) = (1, 100) := by rcases h with rfl | rfl <;> rfl
theorem xTm_3 {k : Nat} (h : xTm k) : xX.2.1 (k + 3) = (1, 100) := by rcases h with rfl | rfl <;> rfl
theorem xTm_4 {k : Nat} (h : xTm k) : xX.2.1 (k + 4) = (1, 100) := by rcases h with rfl | rfl <;> rfl
theorem xTm_5 {k : Nat} (h : xTm k) : xX.2.1 (k + 5) = (1, 100) := by rcases h with rfl | rfl <;> rfl
theorem xTm_6 {k : Nat} (h : xTm k) : xX.2.1 (k + 6) = (1, 100) := by rcases h with rfl | rfl <;> rfl
theorem xTm_7 {k : Nat} (h : xTm k) : xX.2.1 (k + 7) = (1, 100) := by rcases h with rfl | rfl <;> rfl
theorem xTm_8 {k : Nat} (h : xTm k) : xX.2.1 (k + 8) = (1, 100) := by rcases h with rfl | rfl <;> rfl
theorem xTm_9 {k : Nat} (h : xTm k) : xX.2.1 (k + 9) = (1, 100) := by rcases h with rfl | rfl <;> rfl
theorem xTm_10 {k : Nat} (h : xTm k) : xX.2.1 (k + 10) = (2, 100) := by rcases h with rfl | rfl <;> rfl
def xN : List Cond := [(Cond.methodLinkNest "RangeReckoner" (11 : Nat) ({ cls := "RangeReckoner$Variables", name := "<init>", desc := "()V" } : MethodName) "RangeReckoner"), (Cond.fieldLinkNest "RangeReckoner" (97 : Nat) "RangeReckoner$Variables" "size" "I" "RangeReckoner"), (Cond.methodLinkNest "RangeReckoner" (18 : Nat) ({ cls := "RangeReckoner$Tape", name := "<init>", desc := "()V" } : MethodName) "RangeReckoner"), (Cond.fieldLinkNest "RangeReckoner$Tokens" (53 : Nat) "RangeReckoner$Tape" "length" "I" "RangeReckoner"), (Cond.fieldLinkNest "RangeReckoner" (53 : Nat) "RangeReckoner$Tape" "length" "I" "RangeReckoner"), (Cond.methodLinkNest "RangeReckoner" (25 : Nat) ({ cls := "RangeReckoner$Term", name := "<init>", desc := "()V" } : MethodName) "RangeReckoner"), (Cond.fieldLinkNest "RangeReckoner" (92 : Nat) "RangeReckoner$Term" "size" "I" "RangeReckoner"), (Cond.fieldLinkNest "RangeReckoner$Parser" (152 : Nat) "RangeReckoner$Term" "size" "I" "RangeReckoner"), (Cond.methodLinkNest "RangeReckoner" (35 : Nat) ({ cls := "RangeReckoner$Parser", name := "<init>", desc := "(LRangeReckoner$Variables;LRangeReckoner$Tape;LRangeReckoner$Term;)V" } : MethodName) "RangeReckoner"), (Cond.methodLinkNest "RangeReckoner$Parser" (11 : Nat) ({ cls := "RangeReckoner$Pending", name := "<init>", desc := "()V" } : MethodName) "RangeReckoner"), (Cond.fieldLinkNest "RangeReckoner$Parser" (199 : Nat) "RangeReckoner$Pending" "size" "I" "RangeReckoner"), (Cond.fieldLinkNest "RangeReckoner$Parser" (130 : Nat) "RangeReckoner$Pending" "nested" "I" "RangeReckoner"), (Cond.methodLinkNest "RangeReckoner$Parser" (28 : Nat) ({ cls := "RangeReckoner$Range", name := "<init>", desc := "()V" } : MethodName) "RangeReckoner"), (Cond.fieldLinkNest "RangeReckoner$Parser" (142 : Nat) "RangeReckoner$Range" "low" "J" "RangeReckoner"), (Cond.fieldLinkNest "RangeReckoner$Parser" (146 : Nat) "RangeReckoner$Range" "high" "J" "RangeReckoner"), (Cond.methodLinkNest "RangeReckoner$Parser" (51 : Nat) ({ cls := "RangeReckoner$Tokens", name := "<init>", desc := "(LRangeReckoner$Tape;)V" } : MethodName) "RangeReckoner"), (Cond.fieldLinkNest "RangeReckoner$Parser" (90 : Nat) "RangeReckoner$Tokens" "token" "I" "RangeReckoner"), (Cond.fieldLinkNest "RangeReckoner$Parser" (100 : Nat) "RangeReckoner$Tokens" "place" "I" "RangeReckoner"), (Cond.fieldLinkNest "RangeReckoner$Parser" (93 : Nat) "RangeReckoner$Tokens" "number" "I" "RangeReckoner"), (Cond.methodLinkNest "RangeReckoner" (42 : Nat) ({ cls := "RangeReckoner$Variables", name := "add", desc := "(II)I" } : MethodName) "RangeReckoner"), (Cond.methodLinkNest "RangeReckoner" (46 : Nat) ({ cls := "RangeReckoner$Variables", name := "set", desc := "(II)Z" } : MethodName) "RangeReckoner"), (Cond.methodLinkNest "RangeReckoner" (50 : Nat) ({ cls := "RangeReckoner$Tape", name := "append", desc := "(II)Z" } : MethodName) "RangeReckoner"), (Cond.methodLinkNest "RangeReckoner" (57 : Nat) ({ cls := "RangeReckoner$Parser", name := "read", desc := "(LRangeReckoner$Term;)I" } : MethodName) "RangeReckoner"), (Cond.methodLinkNest "RangeReckoner$Parser" (82 : Nat) ({ cls := "RangeReckoner$Term", name := "clear", desc := "()V" } : MethodName) "RangeReckoner"), (Cond.methodLinkNest "RangeReckoner$Parser" (87 : Nat) ({ cls := "RangeReckoner$Tokens", name := "restart", desc := "()V" } : MethodName) "RangeReckoner"), (Cond.methodLinkNest "RangeReckoner$Parser" (89 : Nat) ({ cls := "RangeReckoner$Pending", name := "clear", desc := "()V" } : MethodName) "RangeReckoner"), (Cond.methodLinkNest "RangeReckoner$Parser" (66 : Nat) ({ cls := "RangeReckoner$Tokens", name := "advance", desc := "()V" } : MethodName) "RangeReckoner"), (Cond.methodLinkNest "RangeReckoner$Tokens" (31 : Nat) ({ cls := "RangeReckoner$Tape", name := "signAt", desc := "(I)I" } : MethodName) "RangeReckoner"), (Cond.methodLinkNest "RangeReckoner$Tape" (19 : Nat) ({ cls := "RangeReckoner", name := "at", desc := "([II)I" } : MethodName) "RangeReckoner"), (Cond.methodLinkNest "RangeReckoner$Tokens" (37 : Nat) ({ cls := "RangeReckoner", name := "isDigit", desc := "(I)Z" } : MethodName) "RangeReckoner"), (Cond.methodLinkNest "RangeReckoner$Tokens" (62 : Nat) ({ cls := "RangeReckoner$Tape", name := "spells", desc := "(ILjava/lang/String;)Z" } : MethodName) "RangeReckoner"), (Cond.methodLinkNest "RangeReckoner$Parser" (96 : Nat) ({ cls := "RangeReckoner$Range", name := "put", desc := "(JJ)V" } : MethodName) "RangeReckoner"), (Cond.methodLinkNest "RangeReckoner$Parser" (136 : Nat) ({ cls := "RangeReckoner$Term", name := "isFull", desc := "()Z" } : MethodName) "RangeReckoner"), (Cond.methodLinkNest "RangeReckoner$Parser" (139 : Nat) ({ cls := "RangeReckoner$Term", name := "add", desc := "(IIII)V" } : MethodName) "RangeReckoner"), (Cond.methodLinkNest "RangeReckoner$Parser" (149 : Nat) ({ cls := "RangeReckoner$Term", name := "tellRange", desc := "(JJ)V" } : MethodName) "RangeReckoner"), (Cond.methodLinkNest "RangeReckoner$Parser" (117 : Nat) ({ cls := "RangeReckoner$Variables", name := "has", desc := "(I)Z" } : MethodName) "RangeReckoner"), (Cond.methodLinkNest "RangeReckoner$Parser" (123 : Nat) ({ cls := "RangeReckoner$Variables", name := "lowOf", desc := "(I)I" } : MethodName) "RangeReckoner"), (Cond.methodLinkNest "RangeReckoner$Variables" (40 : Nat) ({ cls := "RangeReckoner", name := "at", desc := "([II)I" } : MethodName) "RangeReckoner"), (Cond.methodLinkNest "RangeReckoner$Parser" (127 : Nat) ({ cls := "RangeReckoner$Variables", name := "highOf", desc := "(I)I" } : MethodName) "RangeReckoner"), (Cond.methodLinkNest "RangeReckoner$Parser" (133 : Nat) ({ cls := "RangeReckoner$Pending", name := "push", desc := "(II)V" } : MethodName) "RangeReckoner"), (Cond.methodLinkNest "RangeReckoner$Parser" (159 : Nat) ({ cls := "RangeReckoner", name := "strengthOf", desc := "(I)I" } : MethodName) "RangeReckoner"), (Cond.methodLinkNest "RangeReckoner$Parser" (169 : Nat) ({ cls := "RangeReckoner$Pending", name := "topStrength", desc := "()I" } : MethodName) "RangeReckoner"), (Cond.methodLinkNest "RangeReckoner$Pending" (36 : Nat) ({ cls := "RangeReckoner", name := "at", desc := "([II)I" } : MethodName) "RangeReckoner"), (Cond.methodLinkNest "RangeReckoner$Pending" (43 : Nat) ({ cls := "RangeReckoner", name := "strengthOf", desc := "(I)I" } : MethodName) "RangeReckoner"), (Cond.methodLinkNest "RangeReckoner$Parser" (173 : Nat) ({ cls := "RangeReckoner$Pending", name := "topCode", desc := "()I" } : MethodName) "RangeReckoner"), (Cond.methodLinkNest "RangeReckoner$Parser" (200 : Nat) ({ cls := "RangeReckoner$Pending", name := "topPlace", desc := "()I" } : MethodName) "RangeReckoner"), (Cond.methodLinkNest "RangeReckoner$Parser" (196 : Nat) ({ cls := "RangeReckoner$Pending", name := "pop", desc := "()V" } : MethodName) "RangeReckoner"), (Cond.methodLinkNest "RangeReckoner$Parser" (155 : Nat) ({ cls := "RangeReckoner", name := "at", desc := "([II)I" } : MethodName) "RangeReckoner"), (Cond.methodLinkNest "RangeReckoner$Parser" (206 : Nat) ({ cls := "RangeReckoner", name := "takesOne", desc := "(I)Z" } : MethodName) "RangeReckoner"), (Cond.methodLinkNest "RangeReckoner$Parser" (209 : Nat) ({ cls := "RangeReckoner$Term", name := "lowOf", desc := "(I)I" } : MethodName) "RangeReckoner"), (Cond.methodLinkNest "RangeReckoner$Term" (47 : Nat) ({ cls := "RangeReckoner", name := "at", desc := "([II)I" } : MethodName) "RangeReckoner"), (Cond.methodLinkNest "RangeReckoner$Parser" (210 : Nat) ({ cls := "RangeReckoner$Term", name := "highOf", desc := "(I)I" } : MethodName) "RangeReckoner"), (Cond.methodLinkNest "RangeReckoner$Parser" (235 : Nat) ({ cls := "RangeReckoner$Term", name := "kindOf", desc := "(I)I" } : MethodName) "RangeReckoner"), (Cond.methodLinkNest "RangeReckoner$Parser" (215 : Nat) ({ cls := "RangeReckoner", name := "divides", desc := "(I)Z" } : MethodName) "RangeReckoner"), (Cond.methodLinkNest "RangeReckoner$Parser" (218 : Nat) ({ cls := "RangeReckoner$Range", name := "hasZero", desc := "()Z" } : MethodName) "RangeReckoner"), (Cond.methodLinkNest "RangeReckoner$Parser" (221 : Nat) ({ cls := "RangeReckoner$Range", name := "reckon", desc := "(ILRangeReckoner$Range;LRangeReckoner$Range;)V" } : MethodName) "RangeReckoner"), (Cond.methodLinkNest "RangeReckoner$Parser" (225 : Nat) ({ cls := "RangeReckoner$Range", name := "isBeyond", desc := "()Z" } : MethodName) "RangeReckoner"), (Cond.methodLinkNest "RangeReckoner$Parser" (232 : Nat) ({ cls := "RangeReckoner$Term", name := "tellTaken", desc := "(II)V" } : MethodName) "RangeReckoner"), (Cond.methodLinkNest "RangeReckoner$Parser" (176 : Nat) ({ cls := "RangeReckoner$Pending", name := "topAwaited", desc := "()I" } : MethodName) "RangeReckoner"), (Cond.methodLinkNest "RangeReckoner$Parser" (179 : Nat) ({ cls := "RangeReckoner", name := "isFunction", desc := "(I)Z" } : MethodName) "RangeReckoner"), (Cond.methodLinkNest "RangeReckoner$Parser" (193 : Nat) ({ cls := "RangeReckoner$Pending", name := "cameNextTerm", desc := "()V" } : MethodName) "RangeReckoner"), (Cond.methodLinkNest "RangeReckoner" (61 : Nat) ({ cls := "RangeReckoner$Tape", name := "clear", desc := "()V" } : MethodName) "RangeReckoner"), (Cond.methodLinkNest "RangeReckoner" (64 : Nat) ({ cls := "RangeReckoner$Term", name := "has", desc := "(I)Z" } : MethodName) "RangeReckoner"), (Cond.methodLinkNest "RangeReckoner" (68 : Nat) ({ cls := "RangeReckoner$Term", name := "placeOf", desc := "(I)I" } : MethodName) "RangeReckoner"), (Cond.methodLinkNest "RangeReckoner" (72 : Nat) ({ cls := "RangeReckoner$Term", name := "kindOf", desc := "(I)I" } : MethodName) "RangeReckoner"), (Cond.methodLinkNest "RangeReckoner" (75 : Nat) ({ cls := "RangeReckoner$Term", name := "lowOf", desc := "(I)I" } : MethodName) "RangeReckoner"), (Cond.methodLinkNest "RangeReckoner" (78 : Nat) ({ cls := "RangeReckoner$Term", name := "highOf", desc := "(I)I" } : MethodName) "RangeReckoner"), (Cond.methodLinkNest "RangeReckoner" (98 : Nat) ({ cls := "RangeReckoner$Term", name := "depthOf", desc := "(I)I" } : MethodName) "RangeReckoner"), (Cond.methodLinkNest "RangeReckoner" (88 : Nat) ({ cls := "RangeReckoner$Term", name := "worthOf", desc := "(ILRangeReckoner$Variables;)J" } : MethodName) "RangeReckoner"), (Cond.methodLinkNest "RangeReckoner$Term" (80 : Nat) ({ cls := "RangeReckoner$Variables", name := "worthOf", desc := "(I)I" } : MethodName) "RangeReckoner")]
theorem xN_ok : ∀ w ∈ xN, zNest w = true := by decide +kernel
def xSlen : List Nat := [3, 3, 3, 21]
def xSbyt : List (List Int32) := [[109, 105, 110], [109, 97, 120], [97, 98, 115], [116, 104, 101, 114, 101, 32, 105, 115, 32, 110, 111, 32, 115, 117, 99, 104, 32, 112, 97, 114, 116]]
def xS (E : zE) (A : Nat → Prop) (U : State) : Prop := vk_S 4 xSlen xSbyt E.2.2.2.1 E.2.2.2.2 A U U.heap ∧ vk_R "RangeReckoner$Tokens" 60 "min" (E.2.2.2.1 0) U ∧ vk_R "RangeReckoner$Tokens" 66 "max" (E.2.2.2.1 1) U ∧ vk_R "RangeReckoner$Tokens" 68 "abs" (E.2.2.2.1 2) U ∧ vk_R "RangeReckoner" 83 "there is no such part" (E.2.2.2.1 3) U ∧ va_Z "java/lang/String" "COMPACT_STRINGS" "Z" (.int 1) A U U.heap ∧ va_Zq "jdk/internal/util/Preconditions" "SIOOBE_FORMATTER" "Ljava/util/function/BiFunction;" A U U.heap
def xGG (E : zE) (G : (Nat → Prop) → State → Prop) : Prop := zGr G ∧ ∀ (A : Nat → Prop) (U : State), G A U → xS E A U
abbrev zCx (p : Program) (s : State) (m : MethodId) (args : Array Value) (meth : Method) (c : Code) (E : zE) (G : (Nat → Prop) → State → Prop) (A : Nat → Prop) (d w : Nat) (cc : ByteArray) (nL : Nat) (own : String) : Prop := ZC p (zrm d w) s m args meth c cc nL zT own E xcl xN G A xX 0 0 s.heap
abbrev zGo (p : Program) (l : Launch) (e : Env) (s : State) (m : MethodId) (args : Array Value) (below : List Frame) (meth : Method) (c : Code) (E : zE) (A : Nat → Prop) (d w nL : Nat) (po : Option Value → zH → Prop) (h : zH) (pc : Nat) (lv : List (Option Value)) (st : List Value) : Prop := ZW p l e (zrm d w) s m args below meth c (MQ below (zQ xX E xcl A po) args s 0 0 A) xX E xcl A s.heap nL 0 0 h pc lv st
def zle : List (Option Value) → Nat → List (Option Value) → Prop
  | [], _, _ => True
  | none :: t, i, lv => zle t (i + 1) lv
  | some v :: t, i, lv => lv[i]? = some (some v) ∧ zle t (i + 1) lv
theorem zle_ok : ∀ (t : List (Option Value)) (b : Nat) (lv : List (Option Value)), zle t b lv → ∀ (i : Nat) (v : Value), t[i]? = some (some v) → lv[b + i]? = some (some v)
  | [], _, _, _, i, v, hv => by simp at hv
  | none :: t, b, lv, h, i, v, hv => by
    match i, hv with
    | 0, hv => simp at hv
    | i + 1, hv =>
      have := zle_ok t (b + 1) lv h i v (by simpa using hv)
      rw [show b + (i + 1) = b + 1 + i by omega]
      exact this
  | some w :: t, b, lv, h, i, v, hv => by
    match i, hv with
    | 0, hv =>
      simp only [List.getElem?_cons_zero, Option.some.injEq] at hv
      subst hv
      exact h.1
    | i + 1, hv =>
      have := zle_ok t (b + 1) lv h.2 i v (by simpa using hv)
      rw [show b + (i + 1) = b + 1 + i by omega]
      exact this
theorem z_le {p : Program} {l : Launch} {e : Env} {R : Room} {s : State} {m : MethodId} {args : Array Value} {below : List Frame} {meth : Method} {c : Code} {Q : State → Prop} {nL : Nat} {X : zX} {E : zE} {cl : List vw_C} {A : Nat → Prop} {kc ks : Nat} {h : zH} {pc : Nat} {lv lv2 : List (Option Value)} {st : List Value} (hl : zle lv2 0 lv) (k : ZW p l e R s m args below meth c Q X E cl A s.heap nL kc ks h pc lv2 st) : ZW p l e R s m args below meth c Q X E cl A s.heap nL kc ks h pc lv st :=
  z_sub (fun i v hv => by have := zle_ok lv2 0 lv hl i v hv; rwa [Nat.zero_add] at this) k
def y_A_appendWord : MethodName := ⟨cn_A, "appendWord", "(II)I"⟩
theorem pl_A_appendWord : y_A_appendWord.cls ≠ "java/lang/invoke/MethodHandle" ∧ y_A_appendWord.cls ≠ "java/lang/invoke/VarHandle" ∧ (parseMethodDescriptor y_A_appendWord.desc).map (fun d => d.parameters.length) = some 2 := by decide +kernel
def y_A_append : MethodName := ⟨cn_A, "append", "(II)Z"⟩
theorem pl_A_append : y_A_append.cls ≠ "java/lang/invoke/MethodHandle" ∧ y_A_append.cls ≠ "java/lang/invoke/VarHandle" ∧ (parseMethodDescriptor y_A_append.desc).map (fun d => d.parameters.length) = some 2 := by decide +kernel
def y_A_clear : MethodName := ⟨cn_A, "clear", "()V"⟩
theorem pl_A_clear : y_A_clear.cls ≠ "java/lang/invoke/MethodHandle" ∧ y_A_clear.cls ≠ "java/lang/invoke/VarHandle" ∧ (parseMethodDescriptor y_A_clear.desc).map (fun d => d.parameters.length) = some 0 := by decide +kernel
def y_R_at : MethodName := ⟨cn_R, "at", "([II)I"⟩
theorem pl_R_at : y_R_at.cls ≠ "java/lang/invoke/MethodHandle" ∧ y_R_at.cls ≠ "java/lang/invoke/VarHandle" ∧ (parseMethodDescriptor y_R_at.desc).map (fun d => d.parameters.length) = some 2 := by decide +kernel
def y_A_signAt : MethodName := ⟨cn_A, "signAt", "(I)I"⟩
theorem pl_A_signAt : y_A_signAt.cls ≠ "java/lang/invoke/MethodHandle" ∧ y_A_signAt.cls ≠ "java/lang/invoke/VarHandle" ∧ (parseMethodDescriptor y_A_signAt.desc).map (fun d => d.parameters.length) = some 1 := by decide +kernel
def y_G_cameNextTerm : MethodName := ⟨cn_G, "cameNextTerm", "()V"⟩
theorem pl_G_cameNextTerm : y_G_cameNextTerm.cls ≠ "java/lang/invoke/MethodHandle" ∧ y_G_cameNextTerm.cls ≠ "java/lang/invoke/VarHandle" ∧ (parseMethodDescriptor y_G_cameNextTerm.desc).map (fun d => d.parameters.length) = some 0 := by decide +kernel
def y_G_clear : MethodName := ⟨cn_G, "clear", "()V"⟩
theorem pl_G_clear : y_G_clear.cls ≠ "java/lang/invoke/MethodHandle" ∧ y_G_clear.cls ≠ "java/lang/invoke/VarHandle" ∧ (parseMethodDescriptor y_G_clear.desc).map (fun d => d.parameters.length) = some 0 := by decide +kernel
def y_G_nests : MethodName := ⟨cn_G, "nests", "(I)Z"⟩
theorem pl_G_nests : y_G_nests.cls ≠ "java/lang/invoke/MethodHandle" ∧ y_G_nests.cls ≠ "java/lang/invoke/VarHandle" ∧ (parseMethodDescriptor y_G_nests.desc).map (fun d => d.parameters.length) = some 1 := by decide +kernel
def y_G_topCode : MethodName := ⟨cn_G, "topCode", "()I"⟩
theorem pl_G_topCode : y_G_topCode.cls ≠ "java/lang/invoke/MethodHandle" ∧ y_G_topCode.cls ≠ "java/lang/invoke/VarHandle" ∧ (parseMethodDescriptor y_G_topCode.desc).map (fun d => d.parameters.length) = some 0 := by decide +kernel
def y_G_pop : MethodName := ⟨cn_G, "pop", "()V"⟩
theorem pl_G_pop : y_G_pop.cls ≠ "java/lang/invoke/MethodHandle" ∧ y_G_pop.cls ≠ "java/lang/invoke/VarHandle" ∧ (parseMethodDescriptor y_G_pop.desc).map (fun d => d.parameters.length) = some 0 := by decide +kernel
def y_G_push : MethodName := ⟨cn_G, "push", "(II)V"⟩
theorem pl_G_push : y_G_push.cls ≠ "java/lang/invoke/MethodHandle" ∧ y_G_push.cls ≠ "java/lang/invoke/VarHandle" ∧ (parseMethodDescriptor y_G_push.desc).map (fun d => d.parameters.length) = some 2 := by decide +kernel
def y_G_topAwaited : MethodName := ⟨cn_G, "topAwaited", "()I"⟩
theorem pl_G_topAwaited : y_G_topAwaited.cls ≠ "java/lang/invoke/MethodHandle" ∧ y_G_topAwaited.cls ≠ "java/lang/invoke/VarHandle" ∧ (parseMethodDescriptor y_G_topAwaited.desc).map (fun d => d.parameters.length) = some 0 := by decide +kernel
def y_G_topPlace : MethodName := ⟨cn_G, "topPlace", "()I"⟩
theorem pl_G_topPlace : y_G_topPlace.cls ≠ "java/lang/invoke/MethodHandle" ∧ y_G_topPlace.cls ≠ "java/lang/invoke/VarHandle" ∧ (parseMethodDescriptor y_G_topPlace.desc).map (fun d => d.parameters.length) = some 0 := by decide +kernel
def y_R_strengthOf : MethodName := ⟨cn_R, "strengthOf", "(I)I"⟩
theorem pl_R_strengthOf : y_R_strengthOf.cls ≠ "java/lang/invoke/MethodHandle" ∧ y_R_strengthOf.cls ≠ "java/lang/invoke/VarHandle" ∧ (parseMethodDescriptor y_R_strengthOf.desc).map (fun d => d.parameters.length) = some 1 := by decide +kernel
def y_G_topStrength : MethodName := ⟨cn_G, "topStrength", "()I"⟩
theorem pl_G_topStrength : y_G_topStrength.cls ≠ "java/lang/invoke/MethodHandle" ∧ y_G_topStrength.cls ≠ "java/lang/invoke/VarHandle" ∧ (parseMethodDescriptor y_G_topStrength.desc).map (fun d => d.parameters.length) = some 0 := by decide +kernel
def y_R_isDigit : MethodName := ⟨cn_R, "isDigit", "(I)Z"⟩
theorem pl_R_isDigit : y_R_isDigit.cls ≠ "java/lang/invoke/MethodHandle" ∧ y_R_isDigit.cls ≠ "java/lang/invoke/VarHandle" ∧ (parseMethodDescriptor y_R_isDigit.desc).map (fun d => d.parameters.length) = some 1 := by decide +kernel
def y_K_readDigits : MethodName := ⟨cn_K, "readDigits", "()V"⟩
theorem pl_K_readDigits : y_K_readDigits.cls ≠ "java/lang/invoke/MethodHandle" ∧ y_K_readDigits.cls ≠ "java/lang/invoke/VarHandle" ∧ (parseMethodDescriptor y_K_readDigits.desc).map (fun d => d.parameters.length) = some 0 := by decide +kernel
def y_K_doubleMark : MethodName := ⟨cn_K, "doubleMark", "(II)I"⟩
theorem pl_K_doubleMark : y_K_doubleMark.cls ≠ "java/lang/invoke/MethodHandle" ∧ y_K_doubleMark.cls ≠ "java/lang/invoke/VarHandle" ∧ (parseMethodDescriptor y_K_doubleMark.desc).map (fun d => d.parameters.length) = some 2 := by decide +kernel
def y_K_singleMark : MethodName := ⟨cn_K, "singleMark", "(I)I"⟩
theorem pl_K_singleMark : y_K_singleMark.cls ≠ "java/lang/invoke/MethodHandle" ∧ y_K_singleMark.cls ≠ "java/lang/invoke/VarHandle" ∧ (parseMethodDescriptor y_K_singleMark.desc).map (fun d => d.parameters.length) = some 1 := by decide +kernel
def y_K_readMark : MethodName := ⟨cn_K, "readMark", "()V"⟩
theorem pl_K_readMark : y_K_readMark.cls ≠ "java/lang/invoke/MethodHandle" ∧ y_K_readMark.cls ≠ "java/lang/invoke/VarHandle" ∧ (parseMethodDescriptor y_K_readMark.desc).map (fun d => d.parameters.length) = some 0 := by decide +kernel
def y_K_readVariable : MethodName := ⟨cn_K, "readVariable", "()V"⟩
theorem pl_K_readVariable : y_K_readVariable.cls ≠ "java/lang/invoke/MethodHandle" ∧ y_K_readVariable.cls ≠ "java/lang/invoke/VarHandle" ∧ (parseMethodDescriptor y_K_readVariable.desc).map (fun d => d.parameters.length) = some 0 := by decide +kernel
def y_K_readWord : MethodName := ⟨cn_K, "readWord", "()V"⟩
theorem pl_K_readWord : y_K_readWord.cls ≠ "java/lang/invoke/MethodHandle" ∧ y_K_readWord.cls ≠ "java/lang/invoke/VarHandle" ∧ (parseMethodDescriptor y_K_readWord.desc).map (fun d => d.parameters.length) = some 0 := by decide +kernel
def y_K_skipSpaces : MethodName := ⟨cn_K, "skipSpaces", "()V"⟩
theorem pl_K_skipSpaces : y_K_skipSpaces.cls ≠ "java/lang/invoke/MethodHandle" ∧ y_K_skipSpaces.cls ≠ "java/lang/invoke/VarHandle" ∧ (parseMethodDescriptor y_K_skipSpaces.desc).map (fun d => d.parameters.length) = some 0 := by decide +kernel
def y_K_advance : MethodName := ⟨cn_K, "advance", "()V"⟩
theorem pl_K_advance : y_K_advance.cls ≠ "java/lang/invoke/MethodHandle" ∧ y_K_advance.cls ≠ "java/lang/invoke/VarHandle" ∧ (parseMethodDescriptor y_K_advance.desc).map (fun d => d.parameters.length) = some 0 := by decide +kernel
def y_K_restart : MethodName := ⟨cn_K, "restart", "()V"⟩
theorem pl_K_restart : y_K_restart.cls ≠ "java/lang/invoke/MethodHandle" ∧ y_K_restart.cls ≠ "java/lang/invoke/VarHandle" ∧ (parseMethodDescriptor y_K_restart.desc).map (fun d => d.parameters.length) = some 0 := by decide +kernel
def y_M_at : MethodName := ⟨cn_M, "at", "(I)I"⟩
theorem pl_M_at : y_M_at.cls ≠ "java/lang/invoke/MethodHandle" ∧ y_M_at.cls ≠ "java/lang/invoke/VarHandle" ∧ (parseMethodDescriptor y_M_at.desc).map (fun d => d.parameters.length) = some 1 := by decide +kernel
def y_M_bad : MethodName := ⟨cn_M, "bad", "(II)V"⟩
theorem pl_M_bad : y_M_bad.cls ≠ "java/lang/invoke/MethodHandle" ∧ y_M_bad.cls ≠ "java/lang/invoke/VarHandle" ∧ (parseMethodDescriptor y_M_bad.desc).map (fun d => d.parameters.length) = some 2 := by decide +kernel
def y_M_hold : MethodName := ⟨cn_M, "hold", "(II)V"⟩
theorem pl_M_hold : y_M_hold.cls ≠ "java/lang/invoke/MethodHandle" ∧ y_M_hold.cls ≠ "java/lang/invoke/VarHandle" ∧ (parseMethodDescriptor y_M_hold.desc).map (fun d => d.parameters.length) = some 2 := by decide +kernel
def y_M_enter : MethodName := ⟨cn_M, "enter", "(I)V"⟩
theorem pl_M_enter : y_M_enter.cls ≠ "java/lang/invoke/MethodHandle" ∧ y_M_enter.cls ≠ "java/lang/invoke/VarHandle" ∧ (parseMethodDescriptor y_M_enter.desc).map (fun d => d.parameters.length) = some 1 := by decide +kernel
def y_M_isDigit : MethodName := ⟨cn_M, "isDigit", "(I)Z"⟩
theorem pl_M_isDigit : y_M_isDigit.cls ≠ "java/lang/invoke/MethodHandle" ∧ y_M_isDigit.cls ≠ "java/lang/invoke/VarHandle" ∧ (parseMethodDescriptor y_M_isDigit.desc).map (fun d => d.parameters.length) = some 1 := by decide +kernel
def y_M_stands : MethodName := ⟨cn_M, "stands", "(III)Z"⟩
theorem pl_M_stands : y_M_stands.cls ≠ "java/lang/invoke/MethodHandle" ∧ y_M_stands.cls ≠ "java/lang/invoke/VarHandle" ∧ (parseMethodDescriptor y_M_stands.desc).map (fun d => d.parameters.length) = some 3 := by decide +kernel
def y_M_next : MethodName := ⟨cn_M, "next", "()V"⟩
theorem pl_M_next : y_M_next.cls ≠ "java/lang/invoke/MethodHandle" ∧ y_M_next.cls ≠ "java/lang/invoke/VarHandle" ∧ (parseMethodDescriptor y_M_next.desc).map (fun d => d.parameters.length) = some 0 := by decide +kernel
def y_M_part5 : MethodName := ⟨cn_M, "part", "(IIIJJ)I"⟩
theorem pl_M_part5 : y_M_part5.cls ≠ "java/lang/invoke/MethodHandle" ∧ y_M_part5.cls ≠ "java/lang/invoke/VarHandle" ∧ (parseMethodDescriptor y_M_part5.desc).map (fun d => d.parameters.length) = some 5 := by decide +kernel
def y_M_push : MethodName := ⟨cn_M, "push", "(I)V"⟩
theorem pl_M_push : y_M_push.cls ≠ "java/lang/invoke/MethodHandle" ∧ y_M_push.cls ≠ "java/lang/invoke/VarHandle" ∧ (parseMethodDescriptor y_M_push.desc).map (fun d => d.parameters.length) = some 1 := by decide +kernel
def y_M_begins : MethodName := ⟨cn_M, "begins", "()Z"⟩
theorem pl_M_begins : y_M_begins.cls ≠ "java/lang/invoke/MethodHandle" ∧ y_M_begins.cls ≠ "java/lang/invoke/VarHandle" ∧ (parseMethodDescriptor y_M_begins.desc).map (fun d => d.parameters.length) = some 0 := by decide +kernel
def y_M_count : MethodName := ⟨cn_M, "count", "(I)I"⟩
theorem pl_M_count : y_M_count.cls ≠ "java/lang/invoke/MethodHandle" ∧ y_M_count.cls ≠ "java/lang/invoke/VarHandle" ∧ (parseMethodDescriptor y_M_count.desc).map (fun d => d.parameters.length) = some 1 := by decide +kernel
def y_M_greater : MethodName := ⟨cn_M, "greater", "(JJ)J"⟩
theorem pl_M_greater : y_M_greater.cls ≠ "java/lang/invoke/MethodHandle" ∧ y_M_greater.cls ≠ "java/lang/invoke/VarHandle" ∧ (parseMethodDescriptor y_M_greater.desc).map (fun d => d.parameters.length) = some 2 := by decide +kernel
def y_M_lesser : MethodName := ⟨cn_M, "lesser", "(JJ)J"⟩
theorem pl_M_lesser : y_M_lesser.cls ≠ "java/lang/invoke/MethodHandle" ∧ y_M_lesser.cls ≠ "java/lang/invoke/VarHandle" ∧ (parseMethodDescriptor y_M_lesser.desc).map (fun d => d.parameters.length) = some 2 := by decide +kernel
def y_M_ends : MethodName := ⟨cn_M, "ends", "(JJJJ)V"⟩
theorem pl_M_ends : y_M_ends.cls ≠ "java/lang/invoke/MethodHandle" ∧ y_M_ends.cls ≠ "java/lang/invoke/VarHandle" ∧ (parseMethodDescriptor y_M_ends.desc).map (fun d => d.parameters.length) = some 4 := by decide +kernel
def y_M_pop : MethodName := ⟨cn_M, "pop", "()I"⟩
theorem pl_M_pop : y_M_pop.cls ≠ "java/lang/invoke/MethodHandle" ∧ y_M_pop.cls ≠ "java/lang/invoke/VarHandle" ∧ (parseMethodDescriptor y_M_pop.desc).map (fun d => d.parameters.length) = some 0 := by decide +kernel
def y_M_rank : MethodName := ⟨cn_M, "rank", "(I)I"⟩
theorem pl_M_rank : y_M_rank.cls ≠ "java/lang/invoke/MethodHandle" ∧ y_M_rank.cls ≠ "java/lang/invoke/VarHandle" ∧ (parseMethodDescriptor y_M_rank.desc).map (fun d => d.parameters.length) = some 1 := by decide +kernel
def y_M_size : MethodName := ⟨cn_M, "size", "(J)J"⟩
theorem pl_M_size : y_M_size.cls ≠ "java/lang/invoke/MethodHandle" ∧ y_M_size.cls ≠ "java/lang/invoke/VarHandle" ∧ (parseMethodDescriptor y_M_size.desc).map (fun d => d.parameters.length) = some 1 := by decide +kernel
def y_M_doTwo : MethodName := ⟨cn_M, "doTwo", "(II)V"⟩
theorem pl_M_doTwo : y_M_doTwo.cls ≠ "java/lang/invoke/MethodHandle" ∧ y_M_doTwo.cls ≠ "java/lang/invoke/VarHandle" ∧ (parseMethodDescriptor y_M_doTwo.desc).map (fun d => d.parameters.length) = some 2 := by decide +kernel
def y_M_topOp : MethodName := ⟨cn_M, "topOp", "()I"⟩
theorem pl_M_topOp : y_M_topOp.cls ≠ "java/lang/invoke/MethodHandle" ∧ y_M_topOp.cls ≠ "java/lang/invoke/VarHandle" ∧ (parseMethodDescriptor y_M_topOp.desc).map (fun d => d.parameters.length) = some 0 := by decide +kernel
def y_M_doAll : MethodName := ⟨cn_M, "doAll", "(I)V"⟩
theorem pl_M_doAll : y_M_doAll.cls ≠ "java/lang/invoke/MethodHandle" ∧ y_M_doAll.cls ≠ "java/lang/invoke/VarHandle" ∧ (parseMethodDescriptor y_M_doAll.desc).map (fun d => d.parameters.length) = some 1 := by decide +kernel
def y_M_doChoice : MethodName := ⟨cn_M, "doChoice", "(I)V"⟩
theorem pl_M_doChoice : y_M_doChoice.cls ≠ "java/lang/invoke/MethodHandle" ∧ y_M_doChoice.cls ≠ "java/lang/invoke/VarHandle" ∧ (parseMethodDescriptor y_M_doChoice.desc).map (fun d => d.parameters.length) = some 1 := by decide +kernel
def y_M_doOne : MethodName := ⟨cn_M, "doOne", "(II)V"⟩
theorem pl_M_doOne : y_M_doOne.cls ≠ "java/lang/invoke/MethodHandle" ∧ y_M_doOne.cls ≠ "java/lang/invoke/VarHandle" ∧ (parseMethodDescriptor y_M_doOne.desc).map (fun d => d.parameters.length) = some 2 := by decide +kernel
def y_M_sign : MethodName := ⟨cn_M, "sign", "(III)I"⟩
theorem pl_M_sign : y_M_sign.cls ≠ "java/lang/invoke/MethodHandle" ∧ y_M_sign.cls ≠ "java/lang/invoke/VarHandle" ∧ (parseMethodDescriptor y_M_sign.desc).map (fun d => d.parameters.length) = some 3 := by decide +kernel
def y_M_feed : MethodName := ⟨cn_M, "feed", "(II)I"⟩
theorem pl_M_feed : y_M_feed.cls ≠ "java/lang/invoke/MethodHandle" ∧ y_M_feed.cls ≠ "java/lang/invoke/VarHandle" ∧ (parseMethodDescriptor y_M_feed.desc).map (fun d => d.parameters.length) = some 2 := by decide +kernel
def y_M_give : MethodName := ⟨cn_M, "give", "(II)Z"⟩
theorem pl_M_give : y_M_give.cls ≠ "java/lang/invoke/MethodHandle" ∧ y_M_give.cls ≠ "java/lang/invoke/VarHandle" ∧ (parseMethodDescriptor y_M_give.desc).map (fun d => d.parameters.length) = some 2 := by decide +kernel
def y_M_termEnds : MethodName := ⟨cn_M, "termEnds", "()V"⟩
theorem pl_M_termEnds : y_M_termEnds.cls ≠ "java/lang/invoke/MethodHandle" ∧ y_M_termEnds.cls ≠ "java/lang/invoke/VarHandle" ∧ (parseMethodDescriptor y_M_termEnds.desc).map (fun d => d.parameters.length) = some 0 := by decide +kernel
def y_M_termFault : MethodName := ⟨cn_M, "termFault", "()V"⟩
theorem pl_M_termFault : y_M_termFault.cls ≠ "java/lang/invoke/MethodHandle" ∧ y_M_termFault.cls ≠ "java/lang/invoke/VarHandle" ∧ (parseMethodDescriptor y_M_termFault.desc).map (fun d => d.parameters.length) = some 0 := by decide +kernel
def y_M_wasRead : MethodName := ⟨cn_M, "wasRead", "()V"⟩
theorem pl_M_wasRead : y_M_wasRead.cls ≠ "java/lang/invoke/MethodHandle" ∧ y_M_wasRead.cls ≠ "java/lang/invoke/VarHandle" ∧ (parseMethodDescriptor y_M_wasRead.desc).map (fun d => d.parameters.length) = some 0 := by decide +kernel
def y_M_goesOn : MethodName := ⟨cn_M, "goesOn", "()Z"⟩
theorem pl_M_goesOn : y_M_goesOn.cls ≠ "java/lang/invoke/MethodHandle" ∧ y_M_goesOn.cls ≠ "java/lang/invoke/VarHandle" ∧ (parseMethodDescriptor y_M_goesOn.desc).map (fun d => d.parameters.length) = some 0 := by decide +kernel
def y_M_part : MethodName := ⟨cn_M, "part", "(II)I"⟩
theorem pl_M_part : y_M_part.cls ≠ "java/lang/invoke/MethodHandle" ∧ y_M_part.cls ≠ "java/lang/invoke/VarHandle" ∧ (parseMethodDescriptor y_M_part.desc).map (fun d => d.parameters.length) = some 2 := by decide +kernel
def y_M_take : MethodName := ⟨cn_M, "take", "()I"⟩
theorem pl_M_take : y_M_take.cls ≠ "java/lang/invoke/MethodHandle" ∧ y_M_take.cls ≠ "java/lang/invoke/VarHandle" ∧ (parseMethodDescriptor y_M_take.desc).map (fun d => d.parameters.length) = some 0 := by decide +kernel
def y_M_thrown : MethodName := ⟨cn_M, "thrown", "()I"⟩
theorem pl_M_thrown : y_M_thrown.cls ≠ "java/lang/invoke/MethodHandle" ∧ y_M_thrown.cls ≠ "java/lang/invoke/VarHandle" ∧ (parseMethodDescriptor y_M_thrown.desc).map (fun d => d.parameters.length) = some 0 := by decide +kernel
def y_M_truth : MethodName := ⟨cn_M, "truth", "(Z)J"⟩
theorem pl_M_truth : y_M_truth.cls ≠ "java/lang/invoke/MethodHandle" ∧ y_M_truth.cls ≠ "java/lang/invoke/VarHandle" ∧ (parseMethodDescriptor y_M_truth.desc).map (fun d => d.parameters.length) = some 1 := by decide +kernel
def y_M_worthOf : MethodName := ⟨cn_M, "worthOf", "(I)J"⟩
theorem pl_M_worthOf : y_M_worthOf.cls ≠ "java/lang/invoke/MethodHandle" ∧ y_M_worthOf.cls ≠ "java/lang/invoke/VarHandle" ∧ (parseMethodDescriptor y_M_worthOf.desc).map (fun d => d.parameters.length) = some 1 := by decide +kernel
def y_M_value : MethodName := ⟨cn_M, "value", "(I)J"⟩
theorem pl_M_value : y_M_value.cls ≠ "java/lang/invoke/MethodHandle" ∧ y_M_value.cls ≠ "java/lang/invoke/VarHandle" ∧ (parseMethodDescriptor y_M_value.desc).map (fun d => d.parameters.length) = some 1 := by decide +kernel
def y_M_variable : MethodName := ⟨cn_M, "variable", "(II)I"⟩
theorem pl_M_variable : y_M_variable.cls ≠ "java/lang/invoke/MethodHandle" ∧ y_M_variable.cls ≠ "java/lang/invoke/VarHandle" ∧ (parseMethodDescriptor y_M_variable.desc).map (fun d => d.parameters.length) = some 2 := by decide +kernel
def y_M_width : MethodName := ⟨cn_M, "width", "()J"⟩
theorem pl_M_width : y_M_width.cls ≠ "java/lang/invoke/MethodHandle" ∧ y_M_width.cls ≠ "java/lang/invoke/VarHandle" ∧ (parseMethodDescriptor y_M_width.desc).map (fun d => d.parameters.length) = some 0 := by decide +kernel
def y_N_cover : MethodName := ⟨cn_N, "cover", "(JJJJ)V"⟩
theorem pl_N_cover : y_N_cover.cls ≠ "java/lang/invoke/MethodHandle" ∧ y_N_cover.cls ≠ "java/lang/invoke/VarHandle" ∧ (parseMethodDescriptor y_N_cover.desc).map (fun d => d.parameters.length) = some 4 := by decide +kernel
def y_N_hasZero : MethodName := ⟨cn_N, "hasZero", "()Z"⟩
theorem pl_N_hasZero : y_N_hasZero.cls ≠ "java/lang/invoke/MethodHandle" ∧ y_N_hasZero.cls ≠ "java/lang/invoke/VarHandle" ∧ (parseMethodDescriptor y_N_hasZero.desc).map (fun d => d.parameters.length) = some 0 := by decide +kernel
def y_N_isBeyond : MethodName := ⟨cn_N, "isBeyond", "()Z"⟩
theorem pl_N_isBeyond : y_N_isBeyond.cls ≠ "java/lang/invoke/MethodHandle" ∧ y_N_isBeyond.cls ≠ "java/lang/invoke/VarHandle" ∧ (parseMethodDescriptor y_N_isBeyond.desc).map (fun d => d.parameters.length) = some 0 := by decide +kernel
def y_N_put : MethodName := ⟨cn_N, "put", "(JJ)V"⟩
theorem pl_N_put : y_N_put.cls ≠ "java/lang/invoke/MethodHandle" ∧ y_N_put.cls ≠ "java/lang/invoke/VarHandle" ∧ (parseMethodDescriptor y_N_put.desc).map (fun d => d.parameters.length) = some 2 := by decide +kernel
def y_N_reckonRest : MethodName := ⟨cn_N, "reckonRest", "(LRangeReckoner$Range;LRangeReckoner$Range;)V"⟩
theorem pl_N_reckonRest : y_N_reckonRest.cls ≠ "java/lang/invoke/MethodHandle" ∧ y_N_reckonRest.cls ≠ "java/lang/invoke/VarHandle" ∧ (parseMethodDescriptor y_N_reckonRest.desc).map (fun d => d.parameters.length) = some 2 := by decide +kernel
def y_N_reckonSize : MethodName := ⟨cn_N, "reckonSize", "(LRangeReckoner$Range;)V"⟩
theorem pl_N_reckonSize : y_N_reckonSize.cls ≠ "java/lang/invoke/MethodHandle" ∧ y_N_reckonSize.cls ≠ "java/lang/invoke/VarHandle" ∧ (parseMethodDescriptor y_N_reckonSize.desc).map (fun d => d.parameters.length) = some 1 := by decide +kernel
def y_N_reckon : MethodName := ⟨cn_N, "reckon", "(ILRangeReckoner$Range;LRangeReckoner$Range;)V"⟩
theorem pl_N_reckon : y_N_reckon.cls ≠ "java/lang/invoke/MethodHandle" ∧ y_N_reckon.cls ≠ "java/lang/invoke/VarHandle" ∧ (parseMethodDescriptor y_N_reckon.desc).map (fun d => d.parameters.length) = some 3 := by decide +kernel
def y_P_blame : MethodName := ⟨cn_P, "blame", "(II)V"⟩
theorem pl_P_blame : y_P_blame.cls ≠ "java/lang/invoke/MethodHandle" ∧ y_P_blame.cls ≠ "java/lang/invoke/VarHandle" ∧ (parseMethodDescriptor y_P_blame.desc).map (fun d => d.parameters.length) = some 2 := by decide +kernel
def y_T_isFull : MethodName := ⟨cn_T, "isFull", "()Z"⟩
theorem pl_T_isFull : y_T_isFull.cls ≠ "java/lang/invoke/MethodHandle" ∧ y_T_isFull.cls ≠ "java/lang/invoke/VarHandle" ∧ (parseMethodDescriptor y_T_isFull.desc).map (fun d => d.parameters.length) = some 0 := by decide +kernel
def y_T_add : MethodName := ⟨cn_T, "add", "(IIII)V"⟩
theorem pl_T_add : y_T_add.cls ≠ "java/lang/invoke/MethodHandle" ∧ y_T_add.cls ≠ "java/lang/invoke/VarHandle" ∧ (parseMethodDescriptor y_T_add.desc).map (fun d => d.parameters.length) = some 4 := by decide +kernel
def y_T_has : MethodName := ⟨cn_T, "has", "(I)Z"⟩
theorem pl_T_has : y_T_has.cls ≠ "java/lang/invoke/MethodHandle" ∧ y_T_has.cls ≠ "java/lang/invoke/VarHandle" ∧ (parseMethodDescriptor y_T_has.desc).map (fun d => d.parameters.length) = some 1 := by decide +kernel
def y_T_tellRange : MethodName := ⟨cn_T, "tellRange", "(JJ)V"⟩
theorem pl_T_tellRange : y_T_tellRange.cls ≠ "java/lang/invoke/MethodHandle" ∧ y_T_tellRange.cls ≠ "java/lang/invoke/VarHandle" ∧ (parseMethodDescriptor y_T_tellRange.desc).map (fun d => d.parameters.length) = some 2 := by decide +kernel
def y_P_addPart : MethodName := ⟨cn_P, "addPart", "(IIII)V"⟩
theorem pl_P_addPart : y_P_addPart.cls ≠ "java/lang/invoke/MethodHandle" ∧ y_P_addPart.cls ≠ "java/lang/invoke/VarHandle" ∧ (parseMethodDescriptor y_P_addPart.desc).map (fun d => d.parameters.length) = some 4 := by decide +kernel
def y_T_kindOf : MethodName := ⟨cn_T, "kindOf", "(I)I"⟩
theorem pl_T_kindOf : y_T_kindOf.cls ≠ "java/lang/invoke/MethodHandle" ∧ y_T_kindOf.cls ≠ "java/lang/invoke/VarHandle" ∧ (parseMethodDescriptor y_T_kindOf.desc).map (fun d => d.parameters.length) = some 1 := by decide +kernel
def y_P_kindGiven : MethodName := ⟨cn_P, "kindGiven", "(II)I"⟩
theorem pl_P_kindGiven : y_P_kindGiven.cls ≠ "java/lang/invoke/MethodHandle" ∧ y_P_kindGiven.cls ≠ "java/lang/invoke/VarHandle" ∧ (parseMethodDescriptor y_P_kindGiven.desc).map (fun d => d.parameters.length) = some 2 := by decide +kernel
def y_P_kindsFit : MethodName := ⟨cn_P, "kindsFit", "(IIII)Z"⟩
theorem pl_P_kindsFit : y_P_kindsFit.cls ≠ "java/lang/invoke/MethodHandle" ∧ y_P_kindsFit.cls ≠ "java/lang/invoke/VarHandle" ∧ (parseMethodDescriptor y_P_kindsFit.desc).map (fun d => d.parameters.length) = some 4 := by decide +kernel
def y_P_popLoose : MethodName := ⟨cn_P, "popLoose", "()I"⟩
theorem pl_P_popLoose : y_P_popLoose.cls ≠ "java/lang/invoke/MethodHandle" ∧ y_P_popLoose.cls ≠ "java/lang/invoke/VarHandle" ∧ (parseMethodDescriptor y_P_popLoose.desc).map (fun d => d.parameters.length) = some 0 := by decide +kernel
def y_R_divides : MethodName := ⟨cn_R, "divides", "(I)Z"⟩
theorem pl_R_divides : y_R_divides.cls ≠ "java/lang/invoke/MethodHandle" ∧ y_R_divides.cls ≠ "java/lang/invoke/VarHandle" ∧ (parseMethodDescriptor y_R_divides.desc).map (fun d => d.parameters.length) = some 1 := by decide +kernel
def y_R_takesOne : MethodName := ⟨cn_R, "takesOne", "(I)Z"⟩
theorem pl_R_takesOne : y_R_takesOne.cls ≠ "java/lang/invoke/MethodHandle" ∧ y_R_takesOne.cls ≠ "java/lang/invoke/VarHandle" ∧ (parseMethodDescriptor y_R_takesOne.desc).map (fun d => d.parameters.length) = some 1 := by decide +kernel
def y_T_highOf : MethodName := ⟨cn_T, "highOf", "(I)I"⟩
theorem pl_T_highOf : y_T_highOf.cls ≠ "java/lang/invoke/MethodHandle" ∧ y_T_highOf.cls ≠ "java/lang/invoke/VarHandle" ∧ (parseMethodDescriptor y_T_highOf.desc).map (fun d => d.parameters.length) = some 1 := by decide +kernel
def y_T_lowOf : MethodName := ⟨cn_T, "lowOf", "(I)I"⟩
theorem pl_T_lowOf : y_T_lowOf.cls ≠ "java/lang/invoke/MethodHandle" ∧ y_T_lowOf.cls ≠ "java/lang/invoke/VarHandle" ∧ (parseMethodDescriptor y_T_lowOf.desc).map (fun d => d.parameters.length) = some 1 := by decide +kernel
def y_T_depthOf : MethodName := ⟨cn_T, "depthOf", "(I)I"⟩
theorem pl_T_depthOf : y_T_depthOf.cls ≠ "java/lang/invoke/MethodHandle" ∧ y_T_depthOf.cls ≠ "java/lang/invoke/VarHandle" ∧ (parseMethodDescriptor y_T_depthOf.desc).map (fun d => d.parameters.length) = some 1 := by decide +kernel
def y_T_tellTaken : MethodName := ⟨cn_T, "tellTaken", "(II)V"⟩
theorem pl_T_tellTaken : y_T_tellTaken.cls ≠ "java/lang/invoke/MethodHandle" ∧ y_T_tellTaken.cls ≠ "java/lang/invoke/VarHandle" ∧ (parseMethodDescriptor y_T_tellTaken.desc).map (fun d => d.parameters.length) = some 2 := by decide +kernel
def y_P_combine : MethodName := ⟨cn_P, "combine", "()V"⟩
theorem pl_P_combine : y_P_combine.cls ≠ "java/lang/invoke/MethodHandle" ∧ y_P_combine.cls ≠ "java/lang/invoke/VarHandle" ∧ (parseMethodDescriptor y_P_combine.desc).map (fun d => d.parameters.length) = some 0 := by decide +kernel
def y_P_tokenDue : MethodName := ⟨cn_P, "tokenDue", "(IZ)I"⟩
theorem pl_P_tokenDue : y_P_tokenDue.cls ≠ "java/lang/invoke/MethodHandle" ∧ y_P_tokenDue.cls ≠ "java/lang/invoke/VarHandle" ∧ (parseMethodDescriptor y_P_tokenDue.desc).map (fun d => d.parameters.length) = some 2 := by decide +kernel
def y_P_readBehindTerm : MethodName := ⟨cn_P, "readBehindTerm", "(IZ)V"⟩
theorem pl_P_readBehindTerm : y_P_readBehindTerm.cls ≠ "java/lang/invoke/MethodHandle" ∧ y_P_readBehindTerm.cls ≠ "java/lang/invoke/VarHandle" ∧ (parseMethodDescriptor y_P_readBehindTerm.desc).map (fun d => d.parameters.length) = some 2 := by decide +kernel
def y_P_settle : MethodName := ⟨cn_P, "settle", "(I)V"⟩
theorem pl_P_settle : y_P_settle.cls ≠ "java/lang/invoke/MethodHandle" ∧ y_P_settle.cls ≠ "java/lang/invoke/VarHandle" ∧ (parseMethodDescriptor y_P_settle.desc).map (fun d => d.parameters.length) = some 1 := by decide +kernel
def y_R_isFunction : MethodName := ⟨cn_R, "isFunction", "(I)Z"⟩
theorem pl_R_isFunction : y_R_isFunction.cls ≠ "java/lang/invoke/MethodHandle" ∧ y_R_isFunction.cls ≠ "java/lang/invoke/VarHandle" ∧ (parseMethodDescriptor y_R_isFunction.desc).map (fun d => d.parameters.length) = some 1 := by decide +kernel
def y_P_endTerm : MethodName := ⟨cn_P, "endTerm", "()V"⟩
theorem pl_P_endTerm : y_P_endTerm.cls ≠ "java/lang/invoke/MethodHandle" ∧ y_P_endTerm.cls ≠ "java/lang/invoke/VarHandle" ∧ (parseMethodDescriptor y_P_endTerm.desc).map (fun d => d.parameters.length) = some 0 := by decide +kernel
def y_P_leastSettledBy : MethodName := ⟨cn_P, "leastSettledBy", "(I)I"⟩
theorem pl_P_leastSettledBy : y_P_leastSettledBy.cls ≠ "java/lang/invoke/MethodHandle" ∧ y_P_leastSettledBy.cls ≠ "java/lang/invoke/VarHandle" ∧ (parseMethodDescriptor y_P_leastSettledBy.desc).map (fun d => d.parameters.length) = some 1 := by decide +kernel
def y_P_nest : MethodName := ⟨cn_P, "nest", "(II)V"⟩
theorem pl_P_nest : y_P_nest.cls ≠ "java/lang/invoke/MethodHandle" ∧ y_P_nest.cls ≠ "java/lang/invoke/VarHandle" ∧ (parseMethodDescriptor y_P_nest.desc).map (fun d => d.parameters.length) = some 2 := by decide +kernel
def y_P_goesOn : MethodName := ⟨cn_P, "goesOn", "()Z"⟩
theorem pl_P_goesOn : y_P_goesOn.cls ≠ "java/lang/invoke/MethodHandle" ∧ y_P_goesOn.cls ≠ "java/lang/invoke/VarHandle" ∧ (parseMethodDescriptor y_P_goesOn.desc).map (fun d => d.parameters.length) = some 0 := by decide +kernel
def y_P_readBracket : MethodName := ⟨cn_P, "readBracket", "()V"⟩
theorem pl_P_readBracket : y_P_readBracket.cls ≠ "java/lang/invoke/MethodHandle" ∧ y_P_readBracket.cls ≠ "java/lang/invoke/VarHandle" ∧ (parseMethodDescriptor y_P_readBracket.desc).map (fun d => d.parameters.length) = some 0 := by decide +kernel
def y_V_has : MethodName := ⟨cn_V, "has", "(I)Z"⟩
theorem pl_V_has : y_V_has.cls ≠ "java/lang/invoke/MethodHandle" ∧ y_V_has.cls ≠ "java/lang/invoke/VarHandle" ∧ (parseMethodDescriptor y_V_has.desc).map (fun d => d.parameters.length) = some 1 := by decide +kernel
def y_V_highOf : MethodName := ⟨cn_V, "highOf", "(I)I"⟩
theorem pl_V_highOf : y_V_highOf.cls ≠ "java/lang/invoke/MethodHandle" ∧ y_V_highOf.cls ≠ "java/lang/invoke/VarHandle" ∧ (parseMethodDescriptor y_V_highOf.desc).map (fun d => d.parameters.length) = some 1 := by decide +kernel
def y_V_lowOf : MethodName := ⟨cn_V, "lowOf", "(I)I"⟩
theorem pl_V_lowOf : y_V_lowOf.cls ≠ "java/lang/invoke/MethodHandle" ∧ y_V_lowOf.cls ≠ "java/lang/invoke/VarHandle" ∧ (parseMethodDescriptor y_V_lowOf.desc).map (fun d => d.parameters.length) = some 1 := by decide +kernel
def y_P_readVariable : MethodName := ⟨cn_P, "readVariable", "()V"⟩
theorem pl_P_readVariable : y_P_readVariable.cls ≠ "java/lang/invoke/MethodHandle" ∧ y_P_readVariable.cls ≠ "java/lang/invoke/VarHandle" ∧ (parseMethodDescriptor y_P_readVariable.desc).map (fun d => d.parameters.length) = some 0 := by decide +kernel
def y_P_readOperand : MethodName := ⟨cn_P, "readOperand", "()V"⟩
theorem pl_P_readOperand : y_P_readOperand.cls ≠ "java/lang/invoke/MethodHandle" ∧ y_P_readOperand.cls ≠ "java/lang/invoke/VarHandle" ∧ (parseMethodDescriptor y_P_readOperand.desc).map (fun d => d.parameters.length) = some 0 := by decide +kernel
def y_T_clear : MethodName := ⟨cn_T, "clear", "()V"⟩
theorem pl_T_clear : y_T_clear.cls ≠ "java/lang/invoke/MethodHandle" ∧ y_T_clear.cls ≠ "java/lang/invoke/VarHandle" ∧ (parseMethodDescriptor y_T_clear.desc).map (fun d => d.parameters.length) = some 0 := by decide +kernel
def y_P_restart : MethodName := ⟨cn_P, "restart", "(LRangeReckoner$Term;)V"⟩
theorem pl_P_restart : y_P_restart.cls ≠ "java/lang/invoke/MethodHandle" ∧ y_P_restart.cls ≠ "java/lang/invoke/VarHandle" ∧ (parseMethodDescriptor y_P_restart.desc).map (fun d => d.parameters.length) = some 1 := by decide +kernel
def y_P_read : MethodName := ⟨cn_P, "read", "(LRangeReckoner$Term;)I"⟩
theorem pl_P_read : y_P_read.cls ≠ "java/lang/invoke/MethodHandle" ∧ y_P_read.cls ≠ "java/lang/invoke/VarHandle" ∧ (parseMethodDescriptor y_P_read.desc).map (fun d => d.parameters.length) = some 1 := by decide +kernel
def y_R_count : MethodName := ⟨cn_R, "count", "(I)I"⟩
theorem pl_R_count : y_R_count.cls ≠ "java/lang/invoke/MethodHandle" ∧ y_R_count.cls ≠ "java/lang/invoke/VarHandle" ∧ (parseMethodDescriptor y_R_count.desc).map (fun d => d.parameters.length) = some 1 := by decide +kernel
def y_R_feed : MethodName := ⟨cn_R, "feed", "(II)I"⟩
theorem pl_R_feed : y_R_feed.cls ≠ "java/lang/invoke/MethodHandle" ∧ y_R_feed.cls ≠ "java/lang/invoke/VarHandle" ∧ (parseMethodDescriptor y_R_feed.desc).map (fun d => d.parameters.length) = some 2 := by decide +kernel
def y_V_set : MethodName := ⟨cn_V, "set", "(II)Z"⟩
theorem pl_V_set : y_V_set.cls ≠ "java/lang/invoke/MethodHandle" ∧ y_V_set.cls ≠ "java/lang/invoke/VarHandle" ∧ (parseMethodDescriptor y_V_set.desc).map (fun d => d.parameters.length) = some 2 := by decide +kernel
def y_R_give : MethodName := ⟨cn_R, "give", "(II)Z"⟩
theorem pl_R_give : y_R_give.cls ≠ "java/lang/invoke/MethodHandle" ∧ y_R_give.cls ≠ "java/lang/invoke/VarHandle" ∧ (parseMethodDescriptor y_R_give.desc).map (fun d => d.parameters.length) = some 2 := by decide +kernel
def y_T_placeOf : MethodName := ⟨cn_T, "placeOf", "(I)I"⟩
theorem pl_T_placeOf : y_T_placeOf.cls ≠ "java/lang/invoke/MethodHandle" ∧ y_T_placeOf.cls ≠ "java/lang/invoke/VarHandle" ∧ (parseMethodDescriptor y_T_placeOf.desc).map (fun d => d.parameters.length) = some 1 := by decide +kernel
def y_R_part : MethodName := ⟨cn_R, "part", "(II)I"⟩
theorem pl_R_part : y_R_part.cls ≠ "java/lang/invoke/MethodHandle" ∧ y_R_part.cls ≠ "java/lang/invoke/VarHandle" ∧ (parseMethodDescriptor y_R_part.desc).map (fun d => d.parameters.length) = some 2 := by decide +kernel
def y_R_take : MethodName := ⟨cn_R, "take", "()I"⟩
theorem pl_R_take : y_R_take.cls ≠ "java/lang/invoke/MethodHandle" ∧ y_R_take.cls ≠ "java/lang/invoke/VarHandle" ∧ (parseMethodDescriptor y_R_take.desc).map (fun d => d.parameters.length) = some 0 := by decide +kernel
def y_V_add : MethodName := ⟨cn_V, "add", "(II)I"⟩
theorem pl_V_add : y_V_add.cls ≠ "java/lang/invoke/MethodHandle" ∧ y_V_add.cls ≠ "java/lang/invoke/VarHandle" ∧ (parseMethodDescriptor y_V_add.desc).map (fun d => d.parameters.length) = some 2 := by decide +kernel
def y_R_variable : MethodName := ⟨cn_R, "variable", "(II)I"⟩
theorem pl_R_variable : y_R_variable.cls ≠ "java/lang/invoke/MethodHandle" ∧ y_R_variable.cls ≠ "java/lang/invoke/VarHandle" ∧ (parseMethodDescriptor y_R_variable.desc).map (fun d => d.parameters.length) = some 2 := by decide +kernel
def y_R_width : MethodName := ⟨cn_R, "width", "()J"⟩
theorem pl_R_width : y_R_width.cls ≠ "java/lang/invoke/MethodHandle" ∧ y_R_width.cls ≠ "java/lang/invoke/VarHandle" ∧ (parseMethodDescriptor y_R_width.desc).map (fun d => d.parameters.length) = some 0 := by decide +kernel
def y_T_isTrue : MethodName := ⟨cn_T, "isTrue", "(IJJ)Z"⟩
theorem pl_T_isTrue : y_T_isTrue.cls ≠ "java/lang/invoke/MethodHandle" ∧ y_T_isTrue.cls ≠ "java/lang/invoke/VarHandle" ∧ (parseMethodDescriptor y_T_isTrue.desc).map (fun d => d.parameters.length) = some 3 := by decide +kernel
def y_T_numberOf : MethodName := ⟨cn_T, "numberOf", "(IJJ)J"⟩
theorem pl_T_numberOf : y_T_numberOf.cls ≠ "java/lang/invoke/MethodHandle" ∧ y_T_numberOf.cls ≠ "java/lang/invoke/VarHandle" ∧ (parseMethodDescriptor y_T_numberOf.desc).map (fun d => d.parameters.length) = some 3 := by decide +kernel
def y_T_workedOut : MethodName := ⟨cn_T, "workedOut", "(I)J"⟩
theorem pl_T_workedOut : y_T_workedOut.cls ≠ "java/lang/invoke/MethodHandle" ∧ y_T_workedOut.cls ≠ "java/lang/invoke/VarHandle" ∧ (parseMethodDescriptor y_T_workedOut.desc).map (fun d => d.parameters.length) = some 1 := by decide +kernel
def y_V_worthOf : MethodName := ⟨cn_V, "worthOf", "(I)I"⟩
theorem pl_V_worthOf : y_V_worthOf.cls ≠ "java/lang/invoke/MethodHandle" ∧ y_V_worthOf.cls ≠ "java/lang/invoke/VarHandle" ∧ (parseMethodDescriptor y_V_worthOf.desc).map (fun d => d.parameters.length) = some 1 := by decide +kernel
def y_T_work : MethodName := ⟨cn_T, "work", "(ILRangeReckoner$Variables;)J"⟩
theorem pl_T_work : y_T_work.cls ≠ "java/lang/invoke/MethodHandle" ∧ y_T_work.cls ≠ "java/lang/invoke/VarHandle" ∧ (parseMethodDescriptor y_T_work.desc).map (fun d => d.parameters.length) = some 2 := by decide +kernel
def y_T_worthOf : MethodName := ⟨cn_T, "worthOf", "(ILRangeReckoner$Variables;)J"⟩
theorem pl_T_worthOf : y_T_worthOf.cls ≠ "java/lang/invoke/MethodHandle" ∧ y_T_worthOf.cls ≠ "java/lang/invoke/VarHandle" ∧ (parseMethodDescriptor y_T_worthOf.desc).map (fun d => d.parameters.length) = some 2 := by decide +kernel
def y_A_spells : MethodName := ⟨cn_A, "spells", "(ILjava/lang/String;)Z"⟩
theorem pl_A_spells : y_A_spells.cls ≠ "java/lang/invoke/MethodHandle" ∧ y_A_spells.cls ≠ "java/lang/invoke/VarHandle" ∧ (parseMethodDescriptor y_A_spells.desc).map (fun d => d.parameters.length) = some 2 := by decide +kernel
theorem wn_A_append : ∀ w ∈ zwVN y_A_append prog_5_method_5_code 4 (some .boolean), w ∈ zT := List.forall_mem_cons.mpr ⟨zt_m2 20 rfl rfl, List.forall_mem_cons.mpr ⟨zt_sel (q := (y_A_append, 2)) 3 rfl, List.forall_mem_cons.mpr ⟨zt_m1 3 rfl rfl, List.forall_mem_cons.mpr ⟨zt_m2 21 rfl rfl, fun _ h => absurd h List.not_mem_nil⟩⟩⟩⟩
theorem wn_A_appendWord : ∀ w ∈ zwVN y_A_appendWord prog_5_method_6_code 6 (some .int), w ∈ zT := List.forall_mem_cons.mpr ⟨zt_m2 24 rfl rfl, List.forall_mem_cons.mpr ⟨zt_sel (q := (y_A_appendWord, 2)) 4 rfl, List.forall_mem_cons.mpr ⟨zt_m1 3 rfl rfl, List.forall_mem_cons.mpr ⟨zt_m2 25 rfl rfl, fun _ h => absurd h List.not_mem_nil⟩⟩⟩⟩
theorem wn_A_clear : ∀ w ∈ zwVN y_A_clear prog_5_method_2_code 1 none, w ∈ zT := List.forall_mem_cons.mpr ⟨zt_m3 110 rfl rfl, List.forall_mem_cons.mpr ⟨zt_sel (q := (y_A_clear, 2)) 57 rfl, List.forall_mem_cons.mpr ⟨zt_m1 3 rfl rfl, List.forall_mem_cons.mpr ⟨zt_m3 111 rfl rfl, fun _ h => absurd h List.not_mem_nil⟩⟩⟩⟩
theorem wn_A_signAt : ∀ w ∈ zwVN y_A_signAt prog_5_method_3_code 2 (some .int), w ∈ zT := List.forall_mem_cons.mpr ⟨zt_m2 60 rfl rfl, List.forall_mem_cons.mpr ⟨zt_sel (q := (y_A_signAt, 2)) 12 rfl, List.forall_mem_cons.mpr ⟨zt_m1 3 rfl rfl, List.forall_mem_cons.mpr ⟨zt_m2 61 rfl rfl, fun _ h => absurd h List.not_mem_nil⟩⟩⟩⟩
theorem wn_A_spells : ∀ w ∈ zwVN y_A_spells prog_5_method_4_code 4 (some .boolean), w ∈ zT := List.forall_mem_cons.mpr ⟨zt_m2 85 rfl rfl, List.forall_mem_cons.mpr ⟨zt_sel (q := (y_A_spells, 2)) 16 rfl, List.forall_mem_cons.mpr ⟨zt_m1 3 rfl rfl, List.forall_mem_cons.mpr ⟨zt_m2 86 rfl rfl, fun _ h => absurd h List.not_mem_nil⟩⟩⟩⟩
theorem wn_G_cameNextTerm : ∀ w ∈ zwVN y_G_cameNextTerm prog_3_method_8_code 1 none, w ∈ zT := List.forall_mem_cons.mpr ⟨zt_m3 106 rfl rfl, List.forall_mem_cons.mpr ⟨zt_sel (q := (y_G_cameNextTerm, 5)) 56 rfl, List.forall_mem_cons.mpr ⟨zt_m1 6 rfl rfl, List.forall_mem_cons.mpr ⟨zt_m3 107 rfl rfl, fun _ h => absurd h List.not_mem_nil⟩⟩⟩⟩
theorem wn_G_clear : ∀ w ∈ zwVN y_G_clear prog_3_method_2_code 1 none, w ∈ zT := List.forall_mem_cons.mpr ⟨zt_m2 48 rfl rfl, List.forall_mem_cons.mpr ⟨zt_sel (q := (y_G_clear, 5)) 9 rfl, List.forall_mem_cons.mpr ⟨zt_m1 6 rfl rfl, List.forall_mem_cons.mpr ⟨zt_m2 49 rfl rfl, fun _ h => absurd h List.not_mem_nil⟩⟩⟩⟩
theorem wn_G_nests : ∀ w ∈ zwSN y_G_nests prog_3_method_10_code 1 (some .boolean), w ∈ zT := List.forall_mem_cons.mpr ⟨zt_m2 204 rfl rfl, List.forall_mem_cons.mpr ⟨zt_m1 6 rfl rfl, List.forall_mem_cons.mpr ⟨zt_m2 205 rfl rfl, fun _ h => absurd h List.not_mem_nil⟩⟩⟩
theorem wn_G_pop : ∀ w ∈ zwVN y_G_pop prog_3_method_4_code 1 none, w ∈ zT := List.forall_mem_cons.mpr ⟨zt_m3 9 rfl rfl, List.forall_mem_cons.mpr ⟨zt_sel (q := (y_G_pop, 5)) 39 rfl, List.forall_mem_cons.mpr ⟨zt_m1 6 rfl rfl, List.forall_mem_cons.mpr ⟨zt_m3 10 rfl rfl, fun _ h => absurd h List.not_mem_nil⟩⟩⟩⟩
theorem wn_G_push : ∀ w ∈ zwVN y_G_push prog_3_method_3_code 3 none, w ∈ zT := List.forall_mem_cons.mpr ⟨zt_m2 201 rfl rfl, List.forall_mem_cons.mpr ⟨zt_sel (q := (y_G_push, 5)) 30 rfl, List.forall_mem_cons.mpr ⟨zt_m1 6 rfl rfl, List.forall_mem_cons.mpr ⟨zt_m2 202 rfl rfl, fun _ h => absurd h List.not_mem_nil⟩⟩⟩⟩
theorem wn_G_topAwaited : ∀ w ∈ zwVN y_G_topAwaited prog_3_method_7_code 1 (some .int), w ∈ zT := List.forall_mem_cons.mpr ⟨zt_m2 235 rfl rfl, List.forall_mem_cons.mpr ⟨zt_sel (q := (y_G_topAwaited, 5)) 36 rfl, List.forall_mem_cons.mpr ⟨zt_m1 6 rfl rfl, List.forall_mem_cons.mpr ⟨zt_m2 236 rfl rfl, fun _ h => absurd h List.not_mem_nil⟩⟩⟩⟩
theorem wn_G_topCode : ∀ w ∈ zwVN y_G_topCode prog_3_method_5_code 1 (some .int), w ∈ zT := List.forall_mem_cons.mpr ⟨zt_m2 230 rfl rfl, List.forall_mem_cons.mpr ⟨zt_sel (q := (y_G_topCode, 5)) 35 rfl, List.forall_mem_cons.mpr ⟨zt_m1 6 rfl rfl, List.forall_mem_cons.mpr ⟨zt_m2 231 rfl rfl, fun _ h => absurd h List.not_mem_nil⟩⟩⟩⟩
theorem wn_G_topPlace : ∀ w ∈ zwVN y_G_topPlace prog_3_method_6_code 1 (some .int), w ∈ zT := List.forall_mem_cons.mpr ⟨zt_m3 5 rfl rfl, List.forall_mem_cons.mpr ⟨zt_sel (q := (y_G_topPlace, 5)) 38 rfl, List.forall_mem_cons.mpr ⟨zt_m1 6 rfl rfl, List.forall_mem_cons.mpr ⟨zt_m3 6 rfl rfl, fun _ h => absurd h List.not_mem_nil⟩⟩⟩⟩
theorem wn_G_topStrength : ∀ w ∈ zwVN y_G_topStrength prog_3_method_9_code 1 (some .int), w ∈ zT := List.forall_mem_cons.mpr ⟨zt_m2 226 rfl rfl, List.forall_mem_cons.mpr ⟨zt_sel (q := (y_G_topStrength, 5)) 34 rfl, List.forall_mem_cons.mpr ⟨zt_m1 6 rfl rfl, List.forall_mem_cons.mpr ⟨zt_m2 227 rfl rfl, fun _ h => absurd h List.not_mem_nil⟩⟩⟩⟩
theorem wn_K_advance : ∀ w ∈ zwVN y_K_advance prog_7_method_3_code 2 none, w ∈ zT := List.forall_mem_cons.mpr ⟨zt_m2 52 rfl rfl, List.forall_mem_cons.mpr ⟨zt_sel (q := (y_K_advance, 5)) 10 rfl, List.forall_mem_cons.mpr ⟨zt_m1 8 rfl rfl, List.forall_mem_cons.mpr ⟨zt_m2 53 rfl rfl, fun _ h => absurd h List.not_mem_nil⟩⟩⟩⟩
theorem wn_K_doubleMark : ∀ w ∈ zwSN y_K_doubleMark prog_7_method_9_code 2 (some .int), w ∈ zT := List.forall_mem_cons.mpr ⟨zt_m2 143 rfl rfl, List.forall_mem_cons.mpr ⟨zt_m1 8 rfl rfl, List.forall_mem_cons.mpr ⟨zt_m2 144 rfl rfl, fun _ h => absurd h List.not_mem_nil⟩⟩⟩
theorem wn_K_readDigits : ∀ w ∈ zwVN y_K_readDigits prog_7_method_5_code 5 none, w ∈ zT := List.forall_mem_cons.mpr ⟨zt_m2 70 rfl rfl, List.forall_mem_cons.mpr ⟨zt_sel (q := (y_K_readDigits, 5)) 13 rfl, List.forall_mem_cons.mpr ⟨zt_m1 8 rfl rfl, List.forall_mem_cons.mpr ⟨zt_m2 71 rfl rfl, fun _ h => absurd h List.not_mem_nil⟩⟩⟩⟩
theorem wn_K_readMark : ∀ w ∈ zwVN y_K_readMark prog_7_method_8_code 2 none, w ∈ zT := List.forall_mem_cons.mpr ⟨zt_m2 140 rfl rfl, List.forall_mem_cons.mpr ⟨zt_sel (q := (y_K_readMark, 5)) 17 rfl, List.forall_mem_cons.mpr ⟨zt_m1 8 rfl rfl, List.forall_mem_cons.mpr ⟨zt_m2 141 rfl rfl, fun _ h => absurd h List.not_mem_nil⟩⟩⟩⟩
theorem wn_K_readVariable : ∀ w ∈ zwVN y_K_readVariable prog_7_method_6_code 3 none, w ∈ zT := List.forall_mem_cons.mpr ⟨zt_m2 76 rfl rfl, List.forall_mem_cons.mpr ⟨zt_sel (q := (y_K_readVariable, 5)) 14 rfl, List.forall_mem_cons.mpr ⟨zt_m1 8 rfl rfl, List.forall_mem_cons.mpr ⟨zt_m2 77 rfl rfl, fun _ h => absurd h List.not_mem_nil⟩⟩⟩⟩
theorem wn_K_readWord : ∀ w ∈ zwVN y_K_readWord prog_7_method_7_code 1 none, w ∈ zT := List.forall_mem_cons.mpr ⟨zt_m2 80 rfl rfl, List.forall_mem_cons.mpr ⟨zt_sel (q := (y_K_readWord, 5)) 15 rfl, List.forall_mem_cons.mpr ⟨zt_m1 8 rfl rfl, List.forall_mem_cons.mpr ⟨zt_m2 81 rfl rfl, fun _ h => absurd h List.not_mem_nil⟩⟩⟩⟩
theorem wn_K_restart : ∀ w ∈ zwVN y_K_restart prog_7_method_2_code 1 none, w ∈ zT := List.forall_mem_cons.mpr ⟨zt_m2 44 rfl rfl, List.forall_mem_cons.mpr ⟨zt_sel (q := (y_K_restart, 5)) 8 rfl, List.forall_mem_cons.mpr ⟨zt_m1 8 rfl rfl, List.forall_mem_cons.mpr ⟨zt_m2 45 rfl rfl, fun _ h => absurd h List.not_mem_nil⟩⟩⟩⟩
theorem wn_K_singleMark : ∀ w ∈ zwSN y_K_singleMark prog_7_method_10_code 1 (some .int), w ∈ zT := List.forall_mem_cons.mpr ⟨zt_m2 146 rfl rfl, List.forall_mem_cons.mpr ⟨zt_m1 8 rfl rfl, List.forall_mem_cons.mpr ⟨zt_m2 147 rfl rfl, fun _ h => absurd h List.not_mem_nil⟩⟩⟩
theorem wn_K_skipSpaces : ∀ w ∈ zwVN y_K_skipSpaces prog_7_method_4_code 1 none, w ∈ zT := List.forall_mem_cons.mpr ⟨zt_m2 56 rfl rfl, List.forall_mem_cons.mpr ⟨zt_sel (q := (y_K_skipSpaces, 5)) 11 rfl, List.forall_mem_cons.mpr ⟨zt_m1 8 rfl rfl, List.forall_mem_cons.mpr ⟨zt_m2 57 rfl rfl, fun _ h => absurd h List.not_mem_nil⟩⟩⟩⟩
theorem wn_M_at : ∀ w ∈ zwVN y_M_at prog_10_method_7_code 2 (some .int), w ∈ zT := List.forall_mem_cons.mpr ⟨zt_m4 138 rfl rfl, List.forall_mem_cons.mpr ⟨zt_sel (q := (y_M_at, 35)) 65 rfl, List.forall_mem_cons.mpr ⟨zt_m1 9 rfl rfl, List.forall_mem_cons.mpr ⟨zt_m4 139 rfl rfl, fun _ h => absurd h List.not_mem_nil⟩⟩⟩⟩
theorem wn_M_bad : ∀ w ∈ zwVN y_M_bad prog_10_method_12_code 3 none, w ∈ zT := List.forall_mem_cons.mpr ⟨zt_m4 160 rfl rfl, List.forall_mem_cons.mpr ⟨zt_sel (q := (y_M_bad, 35)) 70 rfl, List.forall_mem_cons.mpr ⟨zt_m1 9 rfl rfl, List.forall_mem_cons.mpr ⟨zt_m4 161 rfl rfl, fun _ h => absurd h List.not_mem_nil⟩⟩⟩⟩
theorem wn_M_begins : ∀ w ∈ zwVN y_M_begins prog_10_method_29_code 1 (some .boolean), w ∈ zT := List.forall_mem_cons.mpr ⟨zt_m4 152 rfl rfl, List.forall_mem_cons.mpr ⟨zt_sel (q := (y_M_begins, 35)) 68 rfl, List.forall_mem_cons.mpr ⟨zt_m1 9 rfl rfl, List.forall_mem_cons.mpr ⟨zt_m4 153 rfl rfl, fun _ h => absurd h List.not_mem_nil⟩⟩⟩⟩
theorem wn_M_doAll : ∀ w ∈ zwVN y_M_doAll prog_10_method_27_code 2 none, w ∈ zT := List.forall_mem_cons.mpr ⟨zt_m4 216 rfl rfl, List.forall_mem_cons.mpr ⟨zt_sel (q := (y_M_doAll, 35)) 81 rfl, List.forall_mem_cons.mpr ⟨zt_m1 9 rfl rfl, List.forall_mem_cons.mpr ⟨zt_m4 217 rfl rfl, fun _ h => absurd h List.not_mem_nil⟩⟩⟩⟩
theorem wn_M_doChoice : ∀ w ∈ zwVN y_M_doChoice prog_10_method_25_code 6 none, w ∈ zT := List.forall_mem_cons.mpr ⟨zt_m4 224 rfl rfl, List.forall_mem_cons.mpr ⟨zt_sel (q := (y_M_doChoice, 35)) 83 rfl, List.forall_mem_cons.mpr ⟨zt_m1 9 rfl rfl, List.forall_mem_cons.mpr ⟨zt_m4 225 rfl rfl, fun _ h => absurd h List.not_mem_nil⟩⟩⟩⟩
theorem wn_M_doOne : ∀ w ∈ zwVN y_M_doOne prog_10_method_24_code 14 none, w ∈ zT := List.forall_mem_cons.mpr ⟨zt_m4 208 rfl rfl, List.forall_mem_cons.mpr ⟨zt_sel (q := (y_M_doOne, 35)) 79 rfl, List.forall_mem_cons.mpr ⟨zt_m1 9 rfl rfl, List.forall_mem_cons.mpr ⟨zt_m4 209 rfl rfl, fun _ h => absurd h List.not_mem_nil⟩⟩⟩⟩
theorem wn_M_doTwo : ∀ w ∈ zwVN y_M_doTwo prog_10_method_23_code 20 none, w ∈ zT := List.forall_mem_cons.mpr ⟨zt_m4 187 rfl rfl, List.forall_mem_cons.mpr ⟨zt_sel (q := (y_M_doTwo, 35)) 76 rfl, List.forall_mem_cons.mpr ⟨zt_m1 9 rfl rfl, List.forall_mem_cons.mpr ⟨zt_m4 188 rfl rfl, fun _ h => absurd h List.not_mem_nil⟩⟩⟩⟩
theorem wn_M_ends : ∀ w ∈ zwVN y_M_ends prog_10_method_22_code 9 none, w ∈ zT := List.forall_mem_cons.mpr ⟨zt_m4 195 rfl rfl, List.forall_mem_cons.mpr ⟨zt_sel (q := (y_M_ends, 35)) 78 rfl, List.forall_mem_cons.mpr ⟨zt_m1 9 rfl rfl, List.forall_mem_cons.mpr ⟨zt_m4 196 rfl rfl, fun _ h => absurd h List.not_mem_nil⟩⟩⟩⟩
theorem wn_M_enter : ∀ w ∈ zwVN y_M_enter prog_10_method_15_code 2 none, w ∈ zT := List.forall_mem_cons.mpr ⟨zt_m4 168 rfl rfl, List.forall_mem_cons.mpr ⟨zt_sel (q := (y_M_enter, 35)) 72 rfl, List.forall_mem_cons.mpr ⟨zt_m1 9 rfl rfl, List.forall_mem_cons.mpr ⟨zt_m4 169 rfl rfl, fun _ h => absurd h List.not_mem_nil⟩⟩⟩⟩
theorem wn_M_goesOn : ∀ w ∈ zwVN y_M_goesOn prog_10_method_30_code 5 (some .boolean), w ∈ zT := List.forall_mem_cons.mpr ⟨zt_m4 212 rfl rfl, List.forall_mem_cons.mpr ⟨zt_sel (q := (y_M_goesOn, 35)) 80 rfl, List.forall_mem_cons.mpr ⟨zt_m1 9 rfl rfl, List.forall_mem_cons.mpr ⟨zt_m4 213 rfl rfl, fun _ h => absurd h List.not_mem_nil⟩⟩⟩⟩
theorem wn_M_greater : ∀ w ∈ zwSN y_M_greater prog_10_method_20_code 4 (some .long), w ∈ zT := List.forall_mem_cons.mpr ⟨zt_m4 201 rfl rfl, List.forall_mem_cons.mpr ⟨zt_m1 9 rfl rfl, List.forall_mem_cons.mpr ⟨zt_m4 202 rfl rfl, fun _ h => absurd h List.not_mem_nil⟩⟩⟩
theorem wn_M_hold : ∀ w ∈ zwVN y_M_hold prog_10_method_14_code 3 none, w ∈ zT := List.forall_mem_cons.mpr ⟨zt_m4 172 rfl rfl, List.forall_mem_cons.mpr ⟨zt_sel (q := (y_M_hold, 35)) 73 rfl, List.forall_mem_cons.mpr ⟨zt_m1 9 rfl rfl, List.forall_mem_cons.mpr ⟨zt_m4 173 rfl rfl, fun _ h => absurd h List.not_mem_nil⟩⟩⟩⟩
theorem wn_M_isDigit : ∀ w ∈ zwVN y_M_isDigit prog_10_method_8_code 2 (some .boolean), w ∈ zT := List.forall_mem_cons.mpr ⟨zt_m4 142 rfl rfl, List.forall_mem_cons.mpr ⟨zt_sel (q := (y_M_isDigit, 35)) 66 rfl, List.forall_mem_cons.mpr ⟨zt_m1 9 rfl rfl, List.forall_mem_cons.mpr ⟨zt_m4 143 rfl rfl, fun _ h => absurd h List.not_mem_nil⟩⟩⟩⟩
theorem wn_M_lesser : ∀ w ∈ zwSN y_M_lesser prog_10_method_19_code 4 (some .long), w ∈ zT := List.forall_mem_cons.mpr ⟨zt_m4 198 rfl rfl, List.forall_mem_cons.mpr ⟨zt_m1 9 rfl rfl, List.forall_mem_cons.mpr ⟨zt_m4 199 rfl rfl, fun _ h => absurd h List.not_mem_nil⟩⟩⟩
theorem wn_M_next : ∀ w ∈ zwVN y_M_next prog_10_method_10_code 4 none, w ∈ zT := List.forall_mem_cons.mpr ⟨zt_m4 134 rfl rfl, List.forall_mem_cons.mpr ⟨zt_sel (q := (y_M_next, 35)) 64 rfl, List.forall_mem_cons.mpr ⟨zt_m1 9 rfl rfl, List.forall_mem_cons.mpr ⟨zt_m4 135 rfl rfl, fun _ h => absurd h List.not_mem_nil⟩⟩⟩⟩
theorem wn_M_part5 : ∀ w ∈ zwVN y_M_part5 prog_10_method_13_code 8 (some .int), w ∈ zT := List.forall_mem_cons.mpr ⟨zt_m4 156 rfl rfl, List.forall_mem_cons.mpr ⟨zt_sel (q := (y_M_part5, 35)) 69 rfl, List.forall_mem_cons.mpr ⟨zt_m1 9 rfl rfl, List.forall_mem_cons.mpr ⟨zt_m4 157 rfl rfl, fun _ h => absurd h List.not_mem_nil⟩⟩⟩⟩
theorem wn_M_pop : ∀ w ∈ zwVN y_M_pop prog_10_method_18_code 1 (some .int), w ∈ zT := List.forall_mem_cons.mpr ⟨zt_m4 191 rfl rfl, List.forall_mem_cons.mpr ⟨zt_sel (q := (y_M_pop, 35)) 77 rfl, List.forall_mem_cons.mpr ⟨zt_m1 9 rfl rfl, List.forall_mem_cons.mpr ⟨zt_m4 192 rfl rfl, fun _ h => absurd h List.not_mem_nil⟩⟩⟩⟩
theorem wn_M_push : ∀ w ∈ zwVN y_M_push prog_10_method_17_code 2 none, w ∈ zT := List.forall_mem_cons.mpr ⟨zt_m4 164 rfl rfl, List.forall_mem_cons.mpr ⟨zt_sel (q := (y_M_push, 35)) 71 rfl, List.forall_mem_cons.mpr ⟨zt_m1 9 rfl rfl, List.forall_mem_cons.mpr ⟨zt_m4 165 rfl rfl, fun _ h => absurd h List.not_mem_nil⟩⟩⟩⟩
theorem wn_M_rank : ∀ w ∈ zwSN y_M_rank prog_10_method_11_code 1 (some .int), w ∈ zT := List.forall_mem_cons.mpr ⟨zt_m4 183 rfl rfl, List.forall_mem_cons.mpr ⟨zt_m1 9 rfl rfl, List.forall_mem_cons.mpr ⟨zt_m4 184 rfl rfl, fun _ h => absurd h List.not_mem_nil⟩⟩⟩
theorem wn_M_sign : ∀ w ∈ zwSN y_M_sign prog_10_method_5_code 3 (some .int), w ∈ zT := List.forall_mem_cons.mpr ⟨zt_m4 126 rfl rfl, List.forall_mem_cons.mpr ⟨zt_m1 9 rfl rfl, List.forall_mem_cons.mpr ⟨zt_m4 127 rfl rfl, fun _ h => absurd h List.not_mem_nil⟩⟩⟩
theorem wn_M_size : ∀ w ∈ zwSN y_M_size prog_10_method_21_code 2 (some .long), w ∈ zT := List.forall_mem_cons.mpr ⟨zt_m4 204 rfl rfl, List.forall_mem_cons.mpr ⟨zt_m1 9 rfl rfl, List.forall_mem_cons.mpr ⟨zt_m4 205 rfl rfl, fun _ h => absurd h List.not_mem_nil⟩⟩⟩
theorem wn_M_stands : ∀ w ∈ zwVN y_M_stands prog_10_method_9_code 4 (some .boolean), w ∈ zT := List.forall_mem_cons.mpr ⟨zt_m4 148 rfl rfl, List.forall_mem_cons.mpr ⟨zt_sel (q := (y_M_stands, 35)) 67 rfl, List.forall_mem_cons.mpr ⟨zt_m1 9 rfl rfl, List.forall_mem_cons.mpr ⟨zt_m4 149 rfl rfl, fun _ h => absurd h List.not_mem_nil⟩⟩⟩⟩
theorem wn_M_termEnds : ∀ w ∈ zwVN y_M_termEnds prog_10_method_28_code 3 none, w ∈ zT := List.forall_mem_cons.mpr ⟨zt_m4 220 rfl rfl, List.forall_mem_cons.mpr ⟨zt_sel (q := (y_M_termEnds, 35)) 82 rfl, List.forall_mem_cons.mpr ⟨zt_m1 9 rfl rfl, List.forall_mem_cons.mpr ⟨zt_m4 221 rfl rfl, fun _ h => absurd h List.not_mem_nil⟩⟩⟩⟩
theorem wn_M_termFault : ∀ w ∈ zwVN y_M_termFault prog_10_method_31_code 1 none, w ∈ zT := List.forall_mem_cons.mpr ⟨zt_m4 228 rfl rfl, List.forall_mem_cons.mpr ⟨zt_sel (q := (y_M_termFault, 35)) 84 rfl, List.forall_mem_cons.mpr ⟨zt_m1 9 rfl rfl, List.forall_mem_cons.mpr ⟨zt_m4 229 rfl rfl, fun _ h => absurd h List.not_mem_nil⟩⟩⟩⟩
theorem wn_M_topOp : ∀ w ∈ zwVN y_M_topOp prog_10_method_16_code 1 (some .int), w ∈ zT := List.forall_mem_cons.mpr ⟨zt_m4 180 rfl rfl, List.forall_mem_cons.mpr ⟨zt_sel (q := (y_M_topOp, 35)) 75 rfl, List.forall_mem_cons.mpr ⟨zt_m1 9 rfl rfl, List.forall_mem_cons.mpr ⟨zt_m4 181 rfl rfl, fun _ h => absurd h List.not_mem_nil⟩⟩⟩⟩
theorem wn_M_truth : ∀ w ∈ zwSN y_M_truth prog_10_method_34_code 1 (some .long), w ∈ zT := List.forall_mem_cons.mpr ⟨zt_m5 3 rfl rfl, List.forall_mem_cons.mpr ⟨zt_m1 9 rfl rfl, List.forall_mem_cons.mpr ⟨zt_m5 4 rfl rfl, fun _ h => absurd h List.not_mem_nil⟩⟩⟩
theorem wn_M_wasRead : ∀ w ∈ zwVN y_M_wasRead prog_10_method_26_code 4 none, w ∈ zT := List.forall_mem_cons.mpr ⟨zt_m4 176 rfl rfl, List.forall_mem_cons.mpr ⟨zt_sel (q := (y_M_wasRead, 35)) 74 rfl, List.forall_mem_cons.mpr ⟨zt_m1 9 rfl rfl, List.forall_mem_cons.mpr ⟨zt_m4 177 rfl rfl, fun _ h => absurd h List.not_mem_nil⟩⟩⟩⟩
theorem wn_M_worthOf : ∀ w ∈ zwVN y_M_worthOf prog_10_method_35_code 7 (some .long), w ∈ zT := List.forall_mem_cons.mpr ⟨zt_m5 0 rfl rfl, List.forall_mem_cons.mpr ⟨zt_sel (q := (y_M_worthOf, 35)) 85 rfl, List.forall_mem_cons.mpr ⟨zt_m1 9 rfl rfl, List.forall_mem_cons.mpr ⟨zt_m5 1 rfl rfl, fun _ h => absurd h List.not_mem_nil⟩⟩⟩⟩
theorem wn_N_cover : ∀ w ∈ zwVN y_N_cover prog_4_method_6_code 9 none, w ∈ zT := List.forall_mem_cons.mpr ⟨zt_m3 50 rfl rfl, List.forall_mem_cons.mpr ⟨zt_sel (q := (y_N_cover, 2)) 47 rfl, List.forall_mem_cons.mpr ⟨zt_m1 7 rfl rfl, List.forall_mem_cons.mpr ⟨zt_m3 51 rfl rfl, fun _ h => absurd h List.not_mem_nil⟩⟩⟩⟩
theorem wn_N_hasZero : ∀ w ∈ zwVN y_N_hasZero prog_4_method_4_code 1 (some .boolean), w ∈ zT := List.forall_mem_cons.mpr ⟨zt_m3 41 rfl rfl, List.forall_mem_cons.mpr ⟨zt_sel (q := (y_N_hasZero, 2)) 45 rfl, List.forall_mem_cons.mpr ⟨zt_m1 7 rfl rfl, List.forall_mem_cons.mpr ⟨zt_m3 42 rfl rfl, fun _ h => absurd h List.not_mem_nil⟩⟩⟩⟩
theorem wn_N_isBeyond : ∀ w ∈ zwVN y_N_isBeyond prog_4_method_3_code 1 (some .boolean), w ∈ zT := List.forall_mem_cons.mpr ⟨zt_m3 72 rfl rfl, List.forall_mem_cons.mpr ⟨zt_sel (q := (y_N_isBeyond, 2)) 50 rfl, List.forall_mem_cons.mpr ⟨zt_m1 7 rfl rfl, List.forall_mem_cons.mpr ⟨zt_m3 73 rfl rfl, fun _ h => absurd h List.not_mem_nil⟩⟩⟩⟩
theorem wn_N_put : ∀ w ∈ zwVN y_N_put prog_4_method_2_code 5 none, w ∈ zT := List.forall_mem_cons.mpr ⟨zt_m2 154 rfl rfl, List.forall_mem_cons.mpr ⟨zt_sel (q := (y_N_put, 2)) 19 rfl, List.forall_mem_cons.mpr ⟨zt_m1 7 rfl rfl, List.forall_mem_cons.mpr ⟨zt_m2 155 rfl rfl, fun _ h => absurd h List.not_mem_nil⟩⟩⟩⟩
theorem wn_N_reckon : ∀ w ∈ zwVN y_N_reckon prog_4_method_5_code 4 none, w ∈ zT := List.forall_mem_cons.mpr ⟨zt_m3 45 rfl rfl, List.forall_mem_cons.mpr ⟨zt_sel (q := (y_N_reckon, 2)) 46 rfl, List.forall_mem_cons.mpr ⟨zt_m1 7 rfl rfl, List.forall_mem_cons.mpr ⟨zt_m3 46 rfl rfl, fun _ h => absurd h List.not_mem_nil⟩⟩⟩⟩
theorem wn_N_reckonRest : ∀ w ∈ zwVN y_N_reckonRest prog_4_method_7_code 5 none, w ∈ zT := List.forall_mem_cons.mpr ⟨zt_m3 60 rfl rfl, List.forall_mem_cons.mpr ⟨zt_sel (q := (y_N_reckonRest, 2)) 48 rfl, List.forall_mem_cons.mpr ⟨zt_m1 7 rfl rfl, List.forall_mem_cons.mpr ⟨zt_m3 61 rfl rfl, fun _ h => absurd h List.not_mem_nil⟩⟩⟩⟩
theorem wn_N_reckonSize : ∀ w ∈ zwVN y_N_reckonSize prog_4_method_8_code 6 none, w ∈ zT := List.forall_mem_cons.mpr ⟨zt_m3 67 rfl rfl, List.forall_mem_cons.mpr ⟨zt_sel (q := (y_N_reckonSize, 2)) 49 rfl, List.forall_mem_cons.mpr ⟨zt_m1 7 rfl rfl, List.forall_mem_cons.mpr ⟨zt_m3 68 rfl rfl, fun _ h => absurd h List.not_mem_nil⟩⟩⟩⟩
theorem wn_P_addPart : ∀ w ∈ zwVN y_P_addPart prog_2_method_9_code 5 none, w ∈ zT := List.forall_mem_cons.mpr ⟨zt_m2 158 rfl rfl, List.forall_mem_cons.mpr ⟨zt_sel (q := (y_P_addPart, 11)) 20 rfl, List.forall_mem_cons.mpr ⟨zt_m1 5 rfl rfl, List.forall_mem_cons.mpr ⟨zt_m2 159 rfl rfl, fun _ h => absurd h List.not_mem_nil⟩⟩⟩⟩
theorem wn_P_blame : ∀ w ∈ zwVN y_P_blame prog_2_method_4_code 3 none, w ∈ zT := List.forall_mem_cons.mpr ⟨zt_m2 166 rfl rfl, List.forall_mem_cons.mpr ⟨zt_sel (q := (y_P_blame, 11)) 22 rfl, List.forall_mem_cons.mpr ⟨zt_m1 5 rfl rfl, List.forall_mem_cons.mpr ⟨zt_m2 167 rfl rfl, fun _ h => absurd h List.not_mem_nil⟩⟩⟩⟩
theorem wn_P_combine : ∀ w ∈ zwVN y_P_combine prog_2_method_17_code 6 none, w ∈ zT := List.forall_mem_cons.mpr ⟨zt_m3 0 rfl rfl, List.forall_mem_cons.mpr ⟨zt_sel (q := (y_P_combine, 11)) 37 rfl, List.forall_mem_cons.mpr ⟨zt_m1 5 rfl rfl, List.forall_mem_cons.mpr ⟨zt_m3 1 rfl rfl, fun _ h => absurd h List.not_mem_nil⟩⟩⟩⟩
theorem wn_P_endTerm : ∀ w ∈ zwVN y_P_endTerm prog_2_method_13_code 3 none, w ∈ zT := List.forall_mem_cons.mpr ⟨zt_m3 91 rfl rfl, List.forall_mem_cons.mpr ⟨zt_sel (q := (y_P_endTerm, 11)) 54 rfl, List.forall_mem_cons.mpr ⟨zt_m1 5 rfl rfl, List.forall_mem_cons.mpr ⟨zt_m3 92 rfl rfl, fun _ h => absurd h List.not_mem_nil⟩⟩⟩⟩
theorem wn_P_goesOn : ∀ w ∈ zwVN y_P_goesOn prog_2_method_11_code 3 (some .boolean), w ∈ zT := List.forall_mem_cons.mpr ⟨zt_m2 212 rfl rfl, List.forall_mem_cons.mpr ⟨zt_sel (q := (y_P_goesOn, 11)) 32 rfl, List.forall_mem_cons.mpr ⟨zt_m1 5 rfl rfl, List.forall_mem_cons.mpr ⟨zt_m2 213 rfl rfl, fun _ h => absurd h List.not_mem_nil⟩⟩⟩⟩
theorem wn_P_kindGiven : ∀ w ∈ zwVN y_P_kindGiven prog_2_method_19_code 5 (some .int), w ∈ zT := List.forall_mem_cons.mpr ⟨zt_m3 78 rfl rfl, List.forall_mem_cons.mpr ⟨zt_sel (q := (y_P_kindGiven, 11)) 51 rfl, List.forall_mem_cons.mpr ⟨zt_m1 5 rfl rfl, List.forall_mem_cons.mpr ⟨zt_m3 79 rfl rfl, fun _ h => absurd h List.not_mem_nil⟩⟩⟩⟩
theorem wn_P_kindsFit : ∀ w ∈ zwVN y_P_kindsFit prog_2_method_18_code 5 (some .boolean), w ∈ zT := List.forall_mem_cons.mpr ⟨zt_m3 30 rfl rfl, List.forall_mem_cons.mpr ⟨zt_sel (q := (y_P_kindsFit, 11)) 43 rfl, List.forall_mem_cons.mpr ⟨zt_m1 5 rfl rfl, List.forall_mem_cons.mpr ⟨zt_m3 31 rfl rfl, fun _ h => absurd h List.not_mem_nil⟩⟩⟩⟩
theorem wn_P_leastSettledBy : ∀ w ∈ zwSN y_P_leastSettledBy prog_2_method_12_code 2 (some .int), w ∈ zT := List.forall_mem_cons.mpr ⟨zt_m2 218 rfl rfl, List.forall_mem_cons.mpr ⟨zt_m1 5 rfl rfl, List.forall_mem_cons.mpr ⟨zt_m2 219 rfl rfl, fun _ h => absurd h List.not_mem_nil⟩⟩⟩
theorem wn_P_nest : ∀ w ∈ zwVN y_P_nest prog_2_method_8_code 3 none, w ∈ zT := List.forall_mem_cons.mpr ⟨zt_m2 197 rfl rfl, List.forall_mem_cons.mpr ⟨zt_sel (q := (y_P_nest, 11)) 29 rfl, List.forall_mem_cons.mpr ⟨zt_m1 5 rfl rfl, List.forall_mem_cons.mpr ⟨zt_m2 198 rfl rfl, fun _ h => absurd h List.not_mem_nil⟩⟩⟩⟩
theorem wn_P_popLoose : ∀ w ∈ zwVN y_P_popLoose prog_2_method_10_code 1 (some .int), w ∈ zT := List.forall_mem_cons.mpr ⟨zt_m3 13 rfl rfl, List.forall_mem_cons.mpr ⟨zt_sel (q := (y_P_popLoose, 11)) 40 rfl, List.forall_mem_cons.mpr ⟨zt_m1 5 rfl rfl, List.forall_mem_cons.mpr ⟨zt_m3 14 rfl rfl, fun _ h => absurd h List.not_mem_nil⟩⟩⟩⟩
theorem wn_P_read : ∀ w ∈ zwVN y_P_read prog_2_method_2_code 3 (some .int), w ∈ zT := List.forall_mem_cons.mpr ⟨zt_m2 32 rfl rfl, List.forall_mem_cons.mpr ⟨zt_sel (q := (y_P_read, 11)) 5 rfl, List.forall_mem_cons.mpr ⟨zt_m1 5 rfl rfl, List.forall_mem_cons.mpr ⟨zt_m2 33 rfl rfl, fun _ h => absurd h List.not_mem_nil⟩⟩⟩⟩
theorem wn_P_readBehindTerm : ∀ w ∈ zwVN y_P_readBehindTerm prog_2_method_14_code 4 none, w ∈ zT := List.forall_mem_cons.mpr ⟨zt_m3 99 rfl rfl, List.forall_mem_cons.mpr ⟨zt_sel (q := (y_P_readBehindTerm, 11)) 55 rfl, List.forall_mem_cons.mpr ⟨zt_m1 5 rfl rfl, List.forall_mem_cons.mpr ⟨zt_m3 100 rfl rfl, fun _ h => absurd h List.not_mem_nil⟩⟩⟩⟩
theorem wn_P_readBracket : ∀ w ∈ zwVN y_P_readBracket prog_2_method_7_code 1 none, w ∈ zT := List.forall_mem_cons.mpr ⟨zt_m2 208 rfl rfl, List.forall_mem_cons.mpr ⟨zt_sel (q := (y_P_readBracket, 11)) 31 rfl, List.forall_mem_cons.mpr ⟨zt_m1 5 rfl rfl, List.forall_mem_cons.mpr ⟨zt_m2 209 rfl rfl, fun _ h => absurd h List.not_mem_nil⟩⟩⟩⟩
theorem wn_P_readOperand : ∀ w ∈ zwVN y_P_readOperand prog_2_method_5_code 1 none, w ∈ zT := List.forall_mem_cons.mpr ⟨zt_m2 150 rfl rfl, List.forall_mem_cons.mpr ⟨zt_sel (q := (y_P_readOperand, 11)) 18 rfl, List.forall_mem_cons.mpr ⟨zt_m1 5 rfl rfl, List.forall_mem_cons.mpr ⟨zt_m2 151 rfl rfl, fun _ h => absurd h List.not_mem_nil⟩⟩⟩⟩
theorem wn_P_readVariable : ∀ w ∈ zwVN y_P_readVariable prog_2_method_6_code 2 none, w ∈ zT := List.forall_mem_cons.mpr ⟨zt_m2 183 rfl rfl, List.forall_mem_cons.mpr ⟨zt_sel (q := (y_P_readVariable, 11)) 26 rfl, List.forall_mem_cons.mpr ⟨zt_m1 5 rfl rfl, List.forall_mem_cons.mpr ⟨zt_m2 184 rfl rfl, fun _ h => absurd h List.not_mem_nil⟩⟩⟩⟩
theorem wn_P_restart : ∀ w ∈ zwVN y_P_restart prog_2_method_3_code 2 none, w ∈ zT := List.forall_mem_cons.mpr ⟨zt_m2 36 rfl rfl, List.forall_mem_cons.mpr ⟨zt_sel (q := (y_P_restart, 11)) 6 rfl, List.forall_mem_cons.mpr ⟨zt_m1 5 rfl rfl, List.forall_mem_cons.mpr ⟨zt_m2 37 rfl rfl, fun _ h => absurd h List.not_mem_nil⟩⟩⟩⟩
theorem wn_P_settle : ∀ w ∈ zwVN y_P_settle prog_2_method_16_code 3 none, w ∈ zT := List.forall_mem_cons.mpr ⟨zt_m2 222 rfl rfl, List.forall_mem_cons.mpr ⟨zt_sel (q := (y_P_settle, 11)) 33 rfl, List.forall_mem_cons.mpr ⟨zt_m1 5 rfl rfl, List.forall_mem_cons.mpr ⟨zt_m2 223 rfl rfl, fun _ h => absurd h List.not_mem_nil⟩⟩⟩⟩
theorem wn_P_tokenDue : ∀ w ∈ zwSN y_P_tokenDue prog_2_method_15_code 2 (some .int), w ∈ zT := List.forall_mem_cons.mpr ⟨zt_m3 102 rfl rfl, List.forall_mem_cons.mpr ⟨zt_m1 5 rfl rfl, List.forall_mem_cons.mpr ⟨zt_m3 103 rfl rfl, fun _ h => absurd h List.not_mem_nil⟩⟩⟩
theorem wn_R_at : ∀ w ∈ zwSN y_R_at prog_1_method_10_code 2 (some .int), w ∈ zT := List.forall_mem_cons.mpr ⟨zt_m2 63 rfl rfl, List.forall_mem_cons.mpr ⟨zt_m1 1 rfl rfl, List.forall_mem_cons.mpr ⟨zt_m2 64 rfl rfl, fun _ h => absurd h List.not_mem_nil⟩⟩⟩
theorem wn_R_divides : ∀ w ∈ zwSN y_R_divides prog_1_method_14_code 1 (some .boolean), w ∈ zT := List.forall_mem_cons.mpr ⟨zt_m3 37 rfl rfl, List.forall_mem_cons.mpr ⟨zt_m1 1 rfl rfl, List.forall_mem_cons.mpr ⟨zt_m3 38 rfl rfl, fun _ h => absurd h List.not_mem_nil⟩⟩⟩
theorem wn_R_isDigit : ∀ w ∈ zwSN y_R_isDigit prog_1_method_11_code 1 (some .boolean), w ∈ zT := List.forall_mem_cons.mpr ⟨zt_m2 66 rfl rfl, List.forall_mem_cons.mpr ⟨zt_m1 1 rfl rfl, List.forall_mem_cons.mpr ⟨zt_m2 67 rfl rfl, fun _ h => absurd h List.not_mem_nil⟩⟩⟩
theorem wn_R_isFunction : ∀ w ∈ zwSN y_R_isFunction prog_1_method_13_code 1 (some .boolean), w ∈ zT := List.forall_mem_cons.mpr ⟨zt_m3 95 rfl rfl, List.forall_mem_cons.mpr ⟨zt_m1 1 rfl rfl, List.forall_mem_cons.mpr ⟨zt_m3 96 rfl rfl, fun _ h => absurd h List.not_mem_nil⟩⟩⟩
theorem wn_R_strengthOf : ∀ w ∈ zwSN y_R_strengthOf prog_1_method_15_code 1 (some .int), w ∈ zT := List.forall_mem_cons.mpr ⟨zt_m2 215 rfl rfl, List.forall_mem_cons.mpr ⟨zt_m1 1 rfl rfl, List.forall_mem_cons.mpr ⟨zt_m2 216 rfl rfl, fun _ h => absurd h List.not_mem_nil⟩⟩⟩
theorem wn_R_takesOne : ∀ w ∈ zwSN y_R_takesOne prog_1_method_12_code 1 (some .boolean), w ∈ zT := List.forall_mem_cons.mpr ⟨zt_m3 17 rfl rfl, List.forall_mem_cons.mpr ⟨zt_m1 1 rfl rfl, List.forall_mem_cons.mpr ⟨zt_m3 18 rfl rfl, fun _ h => absurd h List.not_mem_nil⟩⟩⟩
theorem wn_T_add : ∀ w ∈ zwVN y_T_add prog_6_method_10_code 5 none, w ∈ zT := List.forall_mem_cons.mpr ⟨zt_m2 170 rfl rfl, List.forall_mem_cons.mpr ⟨zt_sel (q := (y_T_add, 11)) 23 rfl, List.forall_mem_cons.mpr ⟨zt_m1 4 rfl rfl, List.forall_mem_cons.mpr ⟨zt_m2 171 rfl rfl, fun _ h => absurd h List.not_mem_nil⟩⟩⟩⟩
theorem wn_T_clear : ∀ w ∈ zwVN y_T_clear prog_6_method_2_code 1 none, w ∈ zT := List.forall_mem_cons.mpr ⟨zt_m2 40 rfl rfl, List.forall_mem_cons.mpr ⟨zt_sel (q := (y_T_clear, 11)) 7 rfl, List.forall_mem_cons.mpr ⟨zt_m1 4 rfl rfl, List.forall_mem_cons.mpr ⟨zt_m2 41 rfl rfl, fun _ h => absurd h List.not_mem_nil⟩⟩⟩⟩
theorem wn_T_depthOf : ∀ w ∈ zwVN y_T_depthOf prog_6_method_9_code 2 (some .int), w ∈ zT := List.forall_mem_cons.mpr ⟨zt_m3 86 rfl rfl, List.forall_mem_cons.mpr ⟨zt_sel (q := (y_T_depthOf, 11)) 53 rfl, List.forall_mem_cons.mpr ⟨zt_m1 4 rfl rfl, List.forall_mem_cons.mpr ⟨zt_m3 87 rfl rfl, fun _ h => absurd h List.not_mem_nil⟩⟩⟩⟩
theorem wn_T_has : ∀ w ∈ zwVN y_T_has prog_6_method_3_code 2 (some .boolean), w ∈ zT := List.forall_mem_cons.mpr ⟨zt_m2 179 rfl rfl, List.forall_mem_cons.mpr ⟨zt_sel (q := (y_T_has, 11)) 25 rfl, List.forall_mem_cons.mpr ⟨zt_m1 4 rfl rfl, List.forall_mem_cons.mpr ⟨zt_m2 180 rfl rfl, fun _ h => absurd h List.not_mem_nil⟩⟩⟩⟩
theorem wn_T_highOf : ∀ w ∈ zwVN y_T_highOf prog_6_method_8_code 2 (some .int), w ∈ zT := List.forall_mem_cons.mpr ⟨zt_m3 26 rfl rfl, List.forall_mem_cons.mpr ⟨zt_sel (q := (y_T_highOf, 11)) 42 rfl, List.forall_mem_cons.mpr ⟨zt_m1 4 rfl rfl, List.forall_mem_cons.mpr ⟨zt_m3 27 rfl rfl, fun _ h => absurd h List.not_mem_nil⟩⟩⟩⟩
theorem wn_T_isFull : ∀ w ∈ zwVN y_T_isFull prog_6_method_4_code 1 (some .boolean), w ∈ zT := List.forall_mem_cons.mpr ⟨zt_m2 162 rfl rfl, List.forall_mem_cons.mpr ⟨zt_sel (q := (y_T_isFull, 11)) 21 rfl, List.forall_mem_cons.mpr ⟨zt_m1 4 rfl rfl, List.forall_mem_cons.mpr ⟨zt_m2 163 rfl rfl, fun _ h => absurd h List.not_mem_nil⟩⟩⟩⟩
theorem wn_T_isTrue : ∀ w ∈ zwSN y_T_isTrue prog_6_method_17_code 5 (some .boolean), w ∈ zT := List.forall_mem_cons.mpr ⟨zt_m3 233 rfl rfl, List.forall_mem_cons.mpr ⟨zt_m1 4 rfl rfl, List.forall_mem_cons.mpr ⟨zt_m3 234 rfl rfl, fun _ h => absurd h List.not_mem_nil⟩⟩⟩
theorem wn_T_kindOf : ∀ w ∈ zwVN y_T_kindOf prog_6_method_6_code 2 (some .int), w ∈ zT := List.forall_mem_cons.mpr ⟨zt_m3 34 rfl rfl, List.forall_mem_cons.mpr ⟨zt_sel (q := (y_T_kindOf, 11)) 44 rfl, List.forall_mem_cons.mpr ⟨zt_m1 4 rfl rfl, List.forall_mem_cons.mpr ⟨zt_m3 35 rfl rfl, fun _ h => absurd h List.not_mem_nil⟩⟩⟩⟩
theorem wn_T_lowOf : ∀ w ∈ zwVN y_T_lowOf prog_6_method_7_code 2 (some .int), w ∈ zT := List.forall_mem_cons.mpr ⟨zt_m3 21 rfl rfl, List.forall_mem_cons.mpr ⟨zt_sel (q := (y_T_lowOf, 11)) 41 rfl, List.forall_mem_cons.mpr ⟨zt_m1 4 rfl rfl, List.forall_mem_cons.mpr ⟨zt_m3 22 rfl rfl, fun _ h => absurd h List.not_mem_nil⟩⟩⟩⟩
theorem wn_T_numberOf : ∀ w ∈ zwSN y_T_numberOf prog_6_method_16_code 5 (some .long), w ∈ zT := List.forall_mem_cons.mpr ⟨zt_m3 227 rfl rfl, List.forall_mem_cons.mpr ⟨zt_m1 4 rfl rfl, List.forall_mem_cons.mpr ⟨zt_m3 228 rfl rfl, fun _ h => absurd h List.not_mem_nil⟩⟩⟩
theorem wn_T_placeOf : ∀ w ∈ zwVN y_T_placeOf prog_6_method_5_code 2 (some .int), w ∈ zT := List.forall_mem_cons.mpr ⟨zt_m3 120 rfl rfl, List.forall_mem_cons.mpr ⟨zt_sel (q := (y_T_placeOf, 11)) 58 rfl, List.forall_mem_cons.mpr ⟨zt_m1 4 rfl rfl, List.forall_mem_cons.mpr ⟨zt_m3 121 rfl rfl, fun _ h => absurd h List.not_mem_nil⟩⟩⟩⟩
theorem wn_T_tellRange : ∀ w ∈ zwVN y_T_tellRange prog_6_method_11_code 6 none, w ∈ zT := List.forall_mem_cons.mpr ⟨zt_m2 175 rfl rfl, List.forall_mem_cons.mpr ⟨zt_sel (q := (y_T_tellRange, 11)) 24 rfl, List.forall_mem_cons.mpr ⟨zt_m1 4 rfl rfl, List.forall_mem_cons.mpr ⟨zt_m2 176 rfl rfl, fun _ h => absurd h List.not_mem_nil⟩⟩⟩⟩
theorem wn_T_tellTaken : ∀ w ∈ zwVN y_T_tellTaken prog_6_method_12_code 5 none, w ∈ zT := List.forall_mem_cons.mpr ⟨zt_m3 82 rfl rfl, List.forall_mem_cons.mpr ⟨zt_sel (q := (y_T_tellTaken, 11)) 52 rfl, List.forall_mem_cons.mpr ⟨zt_m1 4 rfl rfl, List.forall_mem_cons.mpr ⟨zt_m3 83 rfl rfl, fun _ h => absurd h List.not_mem_nil⟩⟩⟩⟩
theorem wn_T_work : ∀ w ∈ zwVN y_T_work prog_6_method_15_code 8 (some .long), w ∈ zT := List.forall_mem_cons.mpr ⟨zt_m3 214 rfl rfl, List.forall_mem_cons.mpr ⟨zt_sel (q := (y_T_work, 11)) 61 rfl, List.forall_mem_cons.mpr ⟨zt_m1 4 rfl rfl, List.forall_mem_cons.mpr ⟨zt_m3 215 rfl rfl, fun _ h => absurd h List.not_mem_nil⟩⟩⟩⟩
theorem wn_T_workedOut : ∀ w ∈ zwVN y_T_workedOut prog_6_method_14_code 2 (some .long), w ∈ zT := List.forall_mem_cons.mpr ⟨zt_m3 218 rfl rfl, List.forall_mem_cons.mpr ⟨zt_sel (q := (y_T_workedOut, 11)) 62 rfl, List.forall_mem_cons.mpr ⟨zt_m1 4 rfl rfl, List.forall_mem_cons.mpr ⟨zt_m3 219 rfl rfl, fun _ h => absurd h List.not_mem_nil⟩⟩⟩⟩
theorem wn_V_add : ∀ w ∈ zwVN y_V_add prog_8_method_3_code 3 (some .int), w ∈ zT := List.forall_mem_cons.mpr ⟨zt_m1 232 rfl rfl, List.forall_mem_cons.mpr ⟨zt_sel (q := (y_V_add, 4)) 0 rfl, List.forall_mem_cons.mpr ⟨zt_m1 2 rfl rfl, List.forall_mem_cons.mpr ⟨zt_m1 233 rfl rfl, fun _ h => absurd h List.not_mem_nil⟩⟩⟩⟩
theorem wn_V_has : ∀ w ∈ zwVN y_V_has prog_8_method_2_code 2 (some .boolean), w ∈ zT := List.forall_mem_cons.mpr ⟨zt_m2 12 rfl rfl, List.forall_mem_cons.mpr ⟨zt_sel (q := (y_V_has, 4)) 2 rfl, List.forall_mem_cons.mpr ⟨zt_m1 2 rfl rfl, List.forall_mem_cons.mpr ⟨zt_m2 13 rfl rfl, fun _ h => absurd h List.not_mem_nil⟩⟩⟩⟩
theorem wn_V_highOf : ∀ w ∈ zwVN y_V_highOf prog_8_method_6_code 2 (some .int), w ∈ zT := List.forall_mem_cons.mpr ⟨zt_m2 193 rfl rfl, List.forall_mem_cons.mpr ⟨zt_sel (q := (y_V_highOf, 4)) 28 rfl, List.forall_mem_cons.mpr ⟨zt_m1 2 rfl rfl, List.forall_mem_cons.mpr ⟨zt_m2 194 rfl rfl, fun _ h => absurd h List.not_mem_nil⟩⟩⟩⟩
theorem wn_V_lowOf : ∀ w ∈ zwVN y_V_lowOf prog_8_method_5_code 2 (some .int), w ∈ zT := List.forall_mem_cons.mpr ⟨zt_m2 188 rfl rfl, List.forall_mem_cons.mpr ⟨zt_sel (q := (y_V_lowOf, 4)) 27 rfl, List.forall_mem_cons.mpr ⟨zt_m1 2 rfl rfl, List.forall_mem_cons.mpr ⟨zt_m2 189 rfl rfl, fun _ h => absurd h List.not_mem_nil⟩⟩⟩⟩
theorem wn_V_set : ∀ w ∈ zwVN y_V_set prog_8_method_4_code 3 (some .boolean), w ∈ zT := List.forall_mem_cons.mpr ⟨zt_m2 8 rfl rfl, List.forall_mem_cons.mpr ⟨zt_sel (q := (y_V_set, 4)) 1 rfl, List.forall_mem_cons.mpr ⟨zt_m1 2 rfl rfl, List.forall_mem_cons.mpr ⟨zt_m2 9 rfl rfl, fun _ h => absurd h List.not_mem_nil⟩⟩⟩⟩
theorem wn_V_worthOf : ∀ w ∈ zwVN y_V_worthOf prog_8_method_7_code 2 (some .int), w ∈ zT := List.forall_mem_cons.mpr ⟨zt_m3 223 rfl rfl, List.forall_mem_cons.mpr ⟨zt_sel (q := (y_V_worthOf, 4)) 63 rfl, List.forall_mem_cons.mpr ⟨zt_m1 2 rfl rfl, List.forall_mem_cons.mpr ⟨zt_m3 224 rfl rfl, fun _ h => absurd h List.not_mem_nil⟩⟩⟩⟩
theorem kc_V_25 : Jvm.Cond.constant "RangeReckoner$Variables" 25 (-2000000000) ∈ zT := zt_m1 234 rfl rfl
theorem kc_V_26 : Jvm.Cond.constant "RangeReckoner$Variables" 26 2000000000 ∈ zT := zt_m1 235 rfl rfl
theorem kl_K_56 : Jvm.Cond.constantLong "RangeReckoner$Tokens" 56 10 ∈ zT := zt_m2 72 rfl rfl
theorem kl_K_58 : Jvm.Cond.constantLong "RangeReckoner$Tokens" 58 2000000000 ∈ zT := zt_m2 73 rfl rfl
theorem kl_M_75 : Jvm.Cond.constantLong "RangeReckonerModel" 75 (-2000000000) ∈ zT := zt_m4 115 rfl rfl
theorem kl_M_77 : Jvm.Cond.constantLong "RangeReckonerModel" 77 2000000000 ∈ zT := zt_m4 116 rfl rfl
theorem kl_M_110 : Jvm.Cond.constantLong "RangeReckonerModel" 110 10 ∈ zT := zt_m4 144 rfl rfl
theorem kl_M_112 : Jvm.Cond.constantLong "RangeReckonerModel" 112 48 ∈ zT := zt_m4 145 rfl rfl
theorem kl_M_223 : Jvm.Cond.constantLong "RangeReckonerModel" 223 (-1) ∈ zT := zt_m5 9 rfl rfl
theorem kl_N_18 : Jvm.Cond.constantLong "RangeReckoner$Range" 18 (-2000000000) ∈ zT := zt_m3 74 rfl rfl
theorem kl_N_20 : Jvm.Cond.constantLong "RangeReckoner$Range" 20 2000000000 ∈ zT := zt_m3 75 rfl rfl
theorem kl_R_95 : Jvm.Cond.constantLong "RangeReckoner" 95 (-1) ∈ zT := zt_m3 129 rfl rfl
theorem fl_A_9 : Cond.fieldLink "RangeReckoner$Tape" 9 "RangeReckoner$Tape" "signs" "[I" ∈ zT := zt_m1 54 rfl rfl
theorem fl_A_15 : Cond.fieldLink "RangeReckoner$Tape" 15 "RangeReckoner$Tape" "length" "I" ∈ zT := zt_m1 55 rfl rfl
theorem fl_G_9 : Cond.fieldLink "RangeReckoner$Pending" 9 "RangeReckoner$Pending" "code" "[I" ∈ zT := zt_m1 118 rfl rfl
theorem fl_G_15 : Cond.fieldLink "RangeReckoner$Pending" 15 "RangeReckoner$Pending" "place" "[I" ∈ zT := zt_m1 119 rfl rfl
theorem fl_G_18 : Cond.fieldLink "RangeReckoner$Pending" 18 "RangeReckoner$Pending" "awaited" "[I" ∈ zT := zt_m1 120 rfl rfl
theorem fl_G_21 : Cond.fieldLink "RangeReckoner$Pending" 21 "RangeReckoner$Pending" "size" "I" ∈ zT := zt_m1 121 rfl rfl
theorem fl_G_25 : Cond.fieldLink "RangeReckoner$Pending" 25 "RangeReckoner$Pending" "nested" "I" ∈ zT := zt_m1 123 rfl rfl
theorem fl_K_9 : Cond.fieldLink "RangeReckoner$Tokens" 9 "RangeReckoner$Tokens" "next" "I" ∈ zT := zt_m1 158 rfl rfl
theorem fl_K_15 : Cond.fieldLink "RangeReckoner$Tokens" 15 "RangeReckoner$Tokens" "token" "I" ∈ zT := zt_m1 159 rfl rfl
theorem fl_K_18 : Cond.fieldLink "RangeReckoner$Tokens" 18 "RangeReckoner$Tokens" "place" "I" ∈ zT := zt_m1 161 rfl rfl
theorem fl_K_21 : Cond.fieldLink "RangeReckoner$Tokens" 21 "RangeReckoner$Tokens" "number" "I" ∈ zT := zt_m1 163 rfl rfl
theorem fl_K_24 : Cond.fieldLink "RangeReckoner$Tokens" 24 "RangeReckoner$Tokens" "tape" "LRangeReckoner$Tape;" ∈ zT := zt_m1 157 rfl rfl
theorem fl_M_7 : Cond.fieldLink "RangeReckonerModel" 7 "RangeReckonerModel" "low" "[I" ∈ zT := zt_m4 3 rfl rfl
theorem fl_M_13 : Cond.fieldLink "RangeReckonerModel" 13 "RangeReckonerModel" "high" "[I" ∈ zT := zt_m4 4 rfl rfl
theorem fl_M_16 : Cond.fieldLink "RangeReckonerModel" 16 "RangeReckonerModel" "given" "[I" ∈ zT := zt_m4 5 rfl rfl
theorem fl_M_19 : Cond.fieldLink "RangeReckonerModel" 19 "RangeReckonerModel" "tape" "[I" ∈ zT := zt_m4 6 rfl rfl
theorem fl_M_22 : Cond.fieldLink "RangeReckonerModel" 22 "RangeReckonerModel" "ptOp" "[I" ∈ zT := zt_m4 13 rfl rfl
theorem fl_M_25 : Cond.fieldLink "RangeReckonerModel" 25 "RangeReckonerModel" "ptPlace" "[I" ∈ zT := zt_m4 14 rfl rfl
theorem fl_M_28 : Cond.fieldLink "RangeReckonerModel" 28 "RangeReckonerModel" "ptKind" "[I" ∈ zT := zt_m4 15 rfl rfl
theorem fl_M_31 : Cond.fieldLink "RangeReckonerModel" 31 "RangeReckonerModel" "ptLow" "[J" ∈ zT := zt_m4 16 rfl rfl
theorem fl_M_35 : Cond.fieldLink "RangeReckonerModel" 35 "RangeReckonerModel" "ptHigh" "[J" ∈ zT := zt_m4 17 rfl rfl
theorem fl_M_38 : Cond.fieldLink "RangeReckonerModel" 38 "RangeReckonerModel" "ptA" "[I" ∈ zT := zt_m4 18 rfl rfl
theorem fl_M_41 : Cond.fieldLink "RangeReckonerModel" 41 "RangeReckonerModel" "ptB" "[I" ∈ zT := zt_m4 19 rfl rfl
theorem fl_M_44 : Cond.fieldLink "RangeReckonerModel" 44 "RangeReckonerModel" "ptC" "[I" ∈ zT := zt_m4 20 rfl rfl
theorem fl_M_47 : Cond.fieldLink "RangeReckonerModel" 47 "RangeReckonerModel" "ptDeep" "[I" ∈ zT := zt_m4 21 rfl rfl
theorem fl_M_50 : Cond.fieldLink "RangeReckonerModel" 50 "RangeReckonerModel" "ptNumber" "[J" ∈ zT := zt_m4 22 rfl rfl
theorem fl_M_53 : Cond.fieldLink "RangeReckonerModel" 53 "RangeReckonerModel" "wtOp" "[I" ∈ zT := zt_m4 26 rfl rfl
theorem fl_M_56 : Cond.fieldLink "RangeReckonerModel" 56 "RangeReckonerModel" "wtPlace" "[I" ∈ zT := zt_m4 27 rfl rfl
theorem fl_M_59 : Cond.fieldLink "RangeReckonerModel" 59 "RangeReckonerModel" "wtRead" "[I" ∈ zT := zt_m4 28 rfl rfl
theorem fl_M_62 : Cond.fieldLink "RangeReckonerModel" 62 "RangeReckonerModel" "pile" "[I" ∈ zT := zt_m4 30 rfl rfl
theorem fl_M_65 : Cond.fieldLink "RangeReckonerModel" 65 "RangeReckonerModel" "worth" "[J" ∈ zT := zt_m4 35 rfl rfl
theorem fl_M_68 : Cond.fieldLink "RangeReckonerModel" 68 "RangeReckonerModel" "thrown" "I" ∈ zT := zt_m4 1 rfl rfl
theorem fl_M_72 : Cond.fieldLink "RangeReckonerModel" 72 "RangeReckonerModel" "variables" "I" ∈ zT := zt_m4 2 rfl rfl
theorem fl_M_83 : Cond.fieldLink "RangeReckonerModel" 83 "RangeReckonerModel" "taped" "I" ∈ zT := zt_m4 7 rfl rfl
theorem fl_M_86 : Cond.fieldLink "RangeReckonerModel" 86 "RangeReckonerModel" "size" "I" ∈ zT := zt_m4 8 rfl rfl
theorem fl_M_93 : Cond.fieldLink "RangeReckonerModel" 93 "RangeReckonerModel" "from" "I" ∈ zT := zt_m4 10 rfl rfl
theorem fl_M_96 : Cond.fieldLink "RangeReckonerModel" 96 "RangeReckonerModel" "to" "I" ∈ zT := zt_m4 11 rfl rfl
theorem fl_M_99 : Cond.fieldLink "RangeReckonerModel" 99 "RangeReckonerModel" "number" "J" ∈ zT := zt_m4 12 rfl rfl
theorem fl_M_103 : Cond.fieldLink "RangeReckonerModel" 103 "RangeReckonerModel" "tk" "I" ∈ zT := zt_m4 9 rfl rfl
theorem fl_M_118 : Cond.fieldLink "RangeReckonerModel" 118 "RangeReckonerModel" "fault" "I" ∈ zT := zt_m4 25 rfl rfl
theorem fl_M_121 : Cond.fieldLink "RangeReckonerModel" 121 "RangeReckonerModel" "read" "I" ∈ zT := zt_m4 23 rfl rfl
theorem fl_M_128 : Cond.fieldLink "RangeReckonerModel" 128 "RangeReckonerModel" "waits" "I" ∈ zT := zt_m4 29 rfl rfl
theorem fl_M_131 : Cond.fieldLink "RangeReckonerModel" 131 "RangeReckonerModel" "deep" "I" ∈ zT := zt_m4 32 rfl rfl
theorem fl_M_137 : Cond.fieldLink "RangeReckonerModel" 137 "RangeReckonerModel" "piled" "I" ∈ zT := zt_m4 31 rfl rfl
theorem fl_M_144 : Cond.fieldLink "RangeReckonerModel" 144 "RangeReckonerModel" "least" "J" ∈ zT := zt_m4 33 rfl rfl
theorem fl_M_150 : Cond.fieldLink "RangeReckonerModel" 150 "RangeReckonerModel" "greatest" "J" ∈ zT := zt_m4 34 rfl rfl
theorem fl_M_212 : Cond.fieldLink "RangeReckonerModel" 212 "RangeReckonerModel" "many" "I" ∈ zT := zt_m4 24 rfl rfl
theorem fl_N_9 : Cond.fieldLink "RangeReckoner$Range" 9 "RangeReckoner$Range" "low" "J" ∈ zT := zt_m1 142 rfl rfl
theorem fl_N_15 : Cond.fieldLink "RangeReckoner$Range" 15 "RangeReckoner$Range" "high" "J" ∈ zT := zt_m1 144 rfl rfl
theorem fl_P_12 : Cond.fieldLink "RangeReckoner$Parser" 12 "RangeReckoner$Parser" "pending" "LRangeReckoner$Pending;" ∈ zT := zt_m1 178 rfl rfl
theorem fl_P_18 : Cond.fieldLink "RangeReckoner$Parser" 18 "RangeReckoner$Parser" "loose" "[I" ∈ zT := zt_m1 179 rfl rfl
theorem fl_P_22 : Cond.fieldLink "RangeReckoner$Parser" 22 "RangeReckoner$Parser" "looseSize" "I" ∈ zT := zt_m1 180 rfl rfl
theorem fl_P_29 : Cond.fieldLink "RangeReckoner$Parser" 29 "RangeReckoner$Parser" "first" "LRangeReckoner$Range;" ∈ zT := zt_m1 181 rfl rfl
theorem fl_P_33 : Cond.fieldLink "RangeReckoner$Parser" 33 "RangeReckoner$Parser" "second" "LRangeReckoner$Range;" ∈ zT := zt_m1 182 rfl rfl
theorem fl_P_36 : Cond.fieldLink "RangeReckoner$Parser" 36 "RangeReckoner$Parser" "given" "LRangeReckoner$Range;" ∈ zT := zt_m1 183 rfl rfl
theorem fl_P_39 : Cond.fieldLink "RangeReckoner$Parser" 39 "RangeReckoner$Parser" "wanted" "I" ∈ zT := zt_m1 185 rfl rfl
theorem fl_P_42 : Cond.fieldLink "RangeReckoner$Parser" 42 "RangeReckoner$Parser" "fault" "I" ∈ zT := zt_m1 186 rfl rfl
theorem fl_P_45 : Cond.fieldLink "RangeReckoner$Parser" 45 "RangeReckoner$Parser" "variables" "LRangeReckoner$Variables;" ∈ zT := zt_m1 176 rfl rfl
theorem fl_P_54 : Cond.fieldLink "RangeReckoner$Parser" 54 "RangeReckoner$Parser" "tokens" "LRangeReckoner$Tokens;" ∈ zT := zt_m1 177 rfl rfl
theorem fl_P_58 : Cond.fieldLink "RangeReckoner$Parser" 58 "RangeReckoner$Parser" "term" "LRangeReckoner$Term;" ∈ zT := zt_m1 184 rfl rfl
theorem fl_R_12 : Cond.fieldLink "RangeReckoner" 12 "RangeReckoner" "variables" "LRangeReckoner$Variables;" ∈ zT := zt_m1 210 rfl rfl
theorem fl_R_19 : Cond.fieldLink "RangeReckoner" 19 "RangeReckoner" "tape" "LRangeReckoner$Tape;" ∈ zT := zt_m1 211 rfl rfl
theorem fl_R_26 : Cond.fieldLink "RangeReckoner" 26 "RangeReckoner" "term" "LRangeReckoner$Term;" ∈ zT := zt_m1 213 rfl rfl
theorem fl_R_30 : Cond.fieldLink "RangeReckoner" 30 "RangeReckoner" "spare" "LRangeReckoner$Term;" ∈ zT := zt_m1 214 rfl rfl
theorem fl_R_38 : Cond.fieldLink "RangeReckoner" 38 "RangeReckoner" "parser" "LRangeReckoner$Parser;" ∈ zT := zt_m1 212 rfl rfl
theorem fl_T_9 : Cond.fieldLink "RangeReckoner$Term" 9 "RangeReckoner$Term" "operator" "[I" ∈ zT := zt_m1 69 rfl rfl
theorem fl_T_15 : Cond.fieldLink "RangeReckoner$Term" 15 "RangeReckoner$Term" "place" "[I" ∈ zT := zt_m1 70 rfl rfl
theorem fl_T_18 : Cond.fieldLink "RangeReckoner$Term" 18 "RangeReckoner$Term" "kind" "[I" ∈ zT := zt_m1 71 rfl rfl
theorem fl_T_21 : Cond.fieldLink "RangeReckoner$Term" 21 "RangeReckoner$Term" "low" "[I" ∈ zT := zt_m1 72 rfl rfl
theorem fl_T_24 : Cond.fieldLink "RangeReckoner$Term" 24 "RangeReckoner$Term" "high" "[I" ∈ zT := zt_m1 73 rfl rfl
theorem fl_T_27 : Cond.fieldLink "RangeReckoner$Term" 27 "RangeReckoner$Term" "left" "[I" ∈ zT := zt_m1 74 rfl rfl
theorem fl_T_30 : Cond.fieldLink "RangeReckoner$Term" 30 "RangeReckoner$Term" "right" "[I" ∈ zT := zt_m1 75 rfl rfl
theorem fl_T_33 : Cond.fieldLink "RangeReckoner$Term" 33 "RangeReckoner$Term" "extra" "[I" ∈ zT := zt_m1 76 rfl rfl
theorem fl_T_36 : Cond.fieldLink "RangeReckoner$Term" 36 "RangeReckoner$Term" "depth" "[I" ∈ zT := zt_m1 77 rfl rfl
theorem fl_T_39 : Cond.fieldLink "RangeReckoner$Term" 39 "RangeReckoner$Term" "worth" "[J" ∈ zT := zt_m1 78 rfl rfl
theorem fl_T_43 : Cond.fieldLink "RangeReckoner$Term" 43 "RangeReckoner$Term" "size" "I" ∈ zT := zt_m1 79 rfl rfl
theorem fl_V_9 : Cond.fieldLink "RangeReckoner$Variables" 9 "RangeReckoner$Variables" "low" "[I" ∈ zT := zt_m1 33 rfl rfl
theorem fl_V_15 : Cond.fieldLink "RangeReckoner$Variables" 15 "RangeReckoner$Variables" "high" "[I" ∈ zT := zt_m1 34 rfl rfl
theorem fl_V_18 : Cond.fieldLink "RangeReckoner$Variables" 18 "RangeReckoner$Variables" "worth" "[I" ∈ zT := zt_m1 35 rfl rfl
theorem fl_V_21 : Cond.fieldLink "RangeReckoner$Variables" 21 "RangeReckoner$Variables" "size" "I" ∈ zT := zt_m1 36 rfl rfl
theorem fn_K_53 : Cond.fieldLinkNest "RangeReckoner$Tokens" 53 "RangeReckoner$Tape" "length" "I" "RangeReckoner" ∈ xN := List.mem_of_getElem? (i := 3) (by decide +kernel)
theorem fn_P_90 : Cond.fieldLinkNest "RangeReckoner$Parser" 90 "RangeReckoner$Tokens" "token" "I" "RangeReckoner" ∈ xN := List.mem_of_getElem? (i := 16) (by decide +kernel)
theorem fn_P_93 : Cond.fieldLinkNest "RangeReckoner$Parser" 93 "RangeReckoner$Tokens" "number" "I" "RangeReckoner" ∈ xN := List.mem_of_getElem? (i := 18) (by decide +kernel)
theorem fn_P_100 : Cond.fieldLinkNest "RangeReckoner$Parser" 100 "RangeReckoner$Tokens" "place" "I" "RangeReckoner" ∈ xN := List.mem_of_getElem? (i := 17) (by decide +kernel)
theorem fn_P_130 : Cond.fieldLinkNest "RangeReckoner$Parser" 130 "RangeReckoner$Pending" "nested" "I" "RangeReckoner" ∈ xN := List.mem_of_getElem? (i := 11) (by decide +kernel)
theorem fn_P_142 : Cond.fieldLinkNest "RangeReckoner$Parser" 142 "RangeReckoner$Range" "low" "J" "RangeReckoner" ∈ xN := List.mem_of_getElem? (i := 13) (by decide +kernel)
theorem fn_P_146 : Cond.fieldLinkNest "RangeReckoner$Parser" 146 "RangeReckoner$Range" "high" "J" "RangeReckoner" ∈ xN := List.mem_of_getElem? (i := 14) (by decide +kernel)
theorem fn_P_152 : Cond.fieldLinkNest "RangeReckoner$Parser" 152 "RangeReckoner$Term" "size" "I" "RangeReckoner" ∈ xN := List.mem_of_getElem? (i := 7) (by decide +kernel)
theorem fn_P_199 : Cond.fieldLinkNest "RangeReckoner$Parser" 199 "RangeReckoner$Pending" "size" "I" "RangeReckoner" ∈ xN := List.mem_of_getElem? (i := 10) (by decide +kernel)
theorem fn_R_53 : Cond.fieldLinkNest "RangeReckoner" 53 "RangeReckoner$Tape" "length" "I" "RangeReckoner" ∈ xN := List.mem_of_getElem? (i := 4) (by decide +kernel)
theorem fn_R_92 : Cond.fieldLinkNest "RangeReckoner" 92 "RangeReckoner$Term" "size" "I" "RangeReckoner" ∈ xN := List.mem_of_getElem? (i := 6) (by decide +kernel)
theorem fn_R_97 : Cond.fieldLinkNest "RangeReckoner" 97 "RangeReckoner$Variables" "size" "I" "RangeReckoner" ∈ xN := List.mem_of_getElem? (i := 1) (by decide +kernel)
theorem ml_N_34 : Cond.methodLink "RangeReckoner$Range" 34 Lib.MathLoose.min_long.x ∈ zT := zt_m3 52 rfl rfl
theorem ml_N_40 : Cond.methodLink "RangeReckoner$Range" 40 Lib.MathLoose.max_long.x ∈ zT := zt_m3 55 rfl rfl
theorem ml_N_47 : Cond.methodLink "RangeReckoner$Range" 47 Lib.MathLoose.abs_long.x ∈ zT := zt_m3 62 rfl rfl
theorem ml_T_63 : Cond.methodLink "RangeReckoner$Term" 63 Lib.Math.max.name ∈ zT := zt_m3 88 rfl rfl
theorem ml_T_96 : Cond.methodLink "RangeReckoner$Term" 96 Lib.MathLoose.min_long.x ∈ zT := zt_m3 229 rfl rfl
theorem ml_T_100 : Cond.methodLink "RangeReckoner$Term" 100 Lib.MathLoose.max_long.x ∈ zT := zt_m3 230 rfl rfl
theorem ml_T_102 : Cond.methodLink "RangeReckoner$Term" 102 Lib.MathLoose.abs_long.x ∈ zT := zt_m3 231 rfl rfl
theorem ml_V_27 : Cond.methodLink "RangeReckoner$Variables" 27 Lib.Math.min.name ∈ zT := zt_m1 236 rfl rfl
theorem ml_V_33 : Cond.methodLink "RangeReckoner$Variables" 33 Lib.Math.max.name ∈ zT := zt_m1 239 rfl rfl
theorem nl_A_19 : Cond.methodLinkNest "RangeReckoner$Tape" 19 y_R_at "RangeReckoner" ∈ xN := List.mem_of_getElem? (i := 28) (by decide +kernel)
theorem nl_G_36 : Cond.methodLinkNest "RangeReckoner$Pending" 36 y_R_at "RangeReckoner" ∈ xN := List.mem_of_getElem? (i := 42) (by decide +kernel)
theorem nl_G_43 : Cond.methodLinkNest "RangeReckoner$Pending" 43 y_R_strengthOf "RangeReckoner" ∈ xN := List.mem_of_getElem? (i := 43) (by decide +kernel)
theorem nl_K_31 : Cond.methodLinkNest "RangeReckoner$Tokens" 31 y_A_signAt "RangeReckoner" ∈ xN := List.mem_of_getElem? (i := 27) (by decide +kernel)
theorem nl_K_37 : Cond.methodLinkNest "RangeReckoner$Tokens" 37 y_R_isDigit "RangeReckoner" ∈ xN := List.mem_of_getElem? (i := 29) (by decide +kernel)
theorem nl_K_62 : Cond.methodLinkNest "RangeReckoner$Tokens" 62 y_A_spells "RangeReckoner" ∈ xN := List.mem_of_getElem? (i := 30) (by decide +kernel)
theorem nl_P_66 : Cond.methodLinkNest "RangeReckoner$Parser" 66 y_K_advance "RangeReckoner" ∈ xN := List.mem_of_getElem? (i := 26) (by decide +kernel)
theorem nl_P_82 : Cond.methodLinkNest "RangeReckoner$Parser" 82 y_T_clear "RangeReckoner" ∈ xN := List.mem_of_getElem? (i := 23) (by decide +kernel)
theorem nl_P_87 : Cond.methodLinkNest "RangeReckoner$Parser" 87 y_K_restart "RangeReckoner" ∈ xN := List.mem_of_getElem? (i := 24) (by decide +kernel)
theorem nl_P_89 : Cond.methodLinkNest "RangeReckoner$Parser" 89 y_G_clear "RangeReckoner" ∈ xN := List.mem_of_getElem? (i := 25) (by decide +kernel)
theorem nl_P_96 : Cond.methodLinkNest "RangeReckoner$Parser" 96 y_N_put "RangeReckoner" ∈ xN := List.mem_of_getElem? (i := 31) (by decide +kernel)
theorem nl_P_117 : Cond.methodLinkNest "RangeReckoner$Parser" 117 y_V_has "RangeReckoner" ∈ xN := List.mem_of_getElem? (i := 35) (by decide +kernel)
theorem nl_P_123 : Cond.methodLinkNest "RangeReckoner$Parser" 123 y_V_lowOf "RangeReckoner" ∈ xN := List.mem_of_getElem? (i := 36) (by decide +kernel)
theorem nl_P_127 : Cond.methodLinkNest "RangeReckoner$Parser" 127 y_V_highOf "RangeReckoner" ∈ xN := List.mem_of_getElem? (i := 38) (by decide +kernel)
theorem nl_P_133 : Cond.methodLinkNest "RangeReckoner$Parser" 133 y_G_push "RangeReckoner" ∈ xN := List.mem_of_getElem? (i := 39) (by decide +kernel)
theorem nl_P_136 : Cond.methodLinkNest "RangeReckoner$Parser" 136 y_T_isFull "RangeReckoner" ∈ xN := List.mem_of_getElem? (i := 32) (by decide +kernel)
theorem nl_P_139 : Cond.methodLinkNest "RangeReckoner$Parser" 139 y_T_add "RangeReckoner" ∈ xN := List.mem_of_getElem? (i := 33) (by decide +kernel)
theorem nl_P_149 : Cond.methodLinkNest "RangeReckoner$Parser" 149 y_T_tellRange "RangeReckoner" ∈ xN := List.mem_of_getElem? (i := 34) (by decide +kernel)
theorem nl_P_155 : Cond.methodLinkNest "RangeReckoner$Parser" 155 y_R_at "RangeReckoner" ∈ xN := List.mem_of_getElem? (i := 47) (by decide +kernel)
theorem nl_P_159 : Cond.methodLinkNest "RangeReckoner$Parser" 159 y_R_strengthOf "RangeReckoner" ∈ xN := List.mem_of_getElem? (i := 40) (by decide +kernel)
theorem nl_P_169 : Cond.methodLinkNest "RangeReckoner$Parser" 169 y_G_topStrength "RangeReckoner" ∈ xN := List.mem_of_getElem? (i := 41) (by decide +kernel)
theorem nl_P_173 : Cond.methodLinkNest "RangeReckoner$Parser" 173 y_G_topCode "RangeReckoner" ∈ xN := List.mem_of_getElem? (i := 44) (by decide +kernel)
theorem nl_P_176 : Cond.methodLinkNest "RangeReckoner$Parser" 176 y_G_topAwaited "RangeReckoner" ∈ xN := List.mem_of_getElem? (i := 58) (by decide +kernel)
theorem nl_P_179 : Cond.methodLinkNest "RangeReckoner$Parser" 179 y_R_isFunction "RangeReckoner" ∈ xN := List.mem_of_getElem? (i := 59) (by decide +kernel)
theorem nl_P_193 : Cond.methodLinkNest "RangeReckoner$Parser" 193 y_G_cameNextTerm "RangeReckoner" ∈ xN := List.mem_of_getElem? (i := 60) (by decide +kernel)
theorem nl_P_196 : Cond.methodLinkNest "RangeReckoner$Parser" 196 y_G_pop "RangeReckoner" ∈ xN := List.mem_of_getElem? (i := 46) (by decide +kernel)
theorem nl_P_200 : Cond.methodLinkNest "RangeReckoner$Parser" 200 y_G_topPlace "RangeReckoner" ∈ xN := List.mem_of_getElem? (i := 45) (by decide +kernel)
theorem nl_P_206 : Cond.methodLinkNest "RangeReckoner$Parser" 206 y_R_takesOne "RangeReckoner" ∈ xN := List.mem_of_getElem? (i := 48) (by decide +kernel)
theorem nl_P_209 : Cond.methodLinkNest "RangeReckoner$Parser" 209 y_T_lowOf "RangeReckoner" ∈ xN := List.mem_of_getElem? (i := 49) (by decide +kernel)
theorem nl_P_210 : Cond.methodLinkNest "RangeReckoner$Parser" 210 y_T_highOf "RangeReckoner" ∈ xN := List.mem_of_getElem? (i := 51) (by decide +kernel)
theorem nl_P_215 : Cond.methodLinkNest "RangeReckoner$Parser" 215 y_R_divides "RangeReckoner" ∈ xN := List.mem_of_getElem? (i := 53) (by decide +kernel)
theorem nl_P_218 : Cond.methodLinkNest "RangeReckoner$Parser" 218 y_N_hasZero "RangeReckoner" ∈ xN := List.mem_of_getElem? (i := 54) (by decide +kernel)
theorem nl_P_221 : Cond.methodLinkNest "RangeReckoner$Parser" 221 y_N_reckon "RangeReckoner" ∈ xN := List.mem_of_getElem? (i := 55) (by decide +kernel)
theorem nl_P_225 : Cond.methodLinkNest "RangeReckoner$Parser" 225 y_N_isBeyond "RangeReckoner" ∈ xN := List.mem_of_getElem? (i := 56) (by decide +kernel)
theorem nl_P_232 : Cond.methodLinkNest "RangeReckoner$Parser" 232 y_T_tellTaken "RangeReckoner" ∈ xN := List.mem_of_getElem? (i := 57) (by decide +kernel)
theorem nl_P_235 : Cond.methodLinkNest "RangeReckoner$Parser" 235 y_T_kindOf "RangeReckoner" ∈ xN := List.mem_of_getElem? (i := 52) (by decide +kernel)
theorem nl_R_42 : Cond.methodLinkNest "RangeReckoner" 42 y_V_add "RangeReckoner" ∈ xN := List.mem_of_getElem? (i := 19) (by decide +kernel)
theorem nl_R_46 : Cond.methodLinkNest "RangeReckoner" 46 y_V_set "RangeReckoner" ∈ xN := List.mem_of_getElem? (i := 20) (by decide +kernel)
theorem nl_R_50 : Cond.methodLinkNest "RangeReckoner" 50 y_A_append "RangeReckoner" ∈ xN := List.mem_of_getElem? (i := 21) (by decide +kernel)
theorem nl_R_57 : Cond.methodLinkNest "RangeReckoner" 57 y_P_read "RangeReckoner" ∈ xN := List.mem_of_getElem? (i := 22) (by decide +kernel)
theorem nl_R_61 : Cond.methodLinkNest "RangeReckoner" 61 y_A_clear "RangeReckoner" ∈ xN := List.mem_of_getElem? (i := 61) (by decide +kernel)
theorem nl_R_64 : Cond.methodLinkNest "RangeReckoner" 64 y_T_has "RangeReckoner" ∈ xN := List.mem_of_getElem? (i := 62) (by decide +kernel)
theorem nl_R_68 : Cond.methodLinkNest "RangeReckoner" 68 y_T_placeOf "RangeReckoner" ∈ xN := List.mem_of_getElem? (i := 63) (by decide +kernel)
theorem nl_R_72 : Cond.methodLinkNest "RangeReckoner" 72 y_T_kindOf "RangeReckoner" ∈ xN := List.mem_of_getElem? (i := 64) (by decide +kernel)
theorem nl_R_75 : Cond.methodLinkNest "RangeReckoner" 75 y_T_lowOf "RangeReckoner" ∈ xN := List.mem_of_getElem? (i := 65) (by decide +kernel)
theorem nl_R_78 : Cond.methodLinkNest "RangeReckoner" 78 y_T_highOf "RangeReckoner" ∈ xN := List.mem_of_getElem? (i := 66) (by decide +kernel)
theorem nl_R_98 : Cond.methodLinkNest "RangeReckoner" 98 y_T_depthOf "RangeReckoner" ∈ xN := List.mem_of_getElem? (i := 67) (by decide +kernel)
theorem nl_T_47 : Cond.methodLinkNest "RangeReckoner$Term" 47 y_R_at "RangeReckoner" ∈ xN := List.mem_of_getElem? (i := 50) (by decide +kernel)
theorem nl_T_80 : Cond.methodLinkNest "RangeReckoner$Term" 80 y_V_worthOf "RangeReckoner" ∈ xN := List.mem_of_getElem? (i := 69) (by decide +kernel)
theorem nl_V_40 : Cond.methodLinkNest "RangeReckoner$Variables" 40 y_R_at "RangeReckoner" ∈ xN := List.mem_of_getElem? (i := 37) (by decide +kernel)
theorem ol_A_36 : ∀ w ∈ zwV "RangeReckoner$Tape" 36 y_A_appendWord prog_5_method_6_code 6 (some .int), w ∈ zT := List.forall_mem_cons.mpr ⟨zt_m2 22 rfl rfl, wn_A_appendWord⟩
theorem ol_G_28 : ∀ w ∈ zwS "RangeReckoner$Pending" 28 y_G_nests prog_3_method_10_code 1 (some .boolean), w ∈ zT := List.forall_mem_cons.mpr ⟨zt_m2 203 rfl rfl, wn_G_nests⟩
theorem ol_G_32 : ∀ w ∈ zwV "RangeReckoner$Pending" 32 y_G_topCode prog_3_method_5_code 1 (some .int), w ∈ zT := List.forall_mem_cons.mpr ⟨zt_m2 228 rfl rfl, wn_G_topCode⟩
theorem ol_G_40 : ∀ w ∈ zwV "RangeReckoner$Pending" 40 y_G_topAwaited prog_3_method_7_code 1 (some .int), w ∈ zT := List.forall_mem_cons.mpr ⟨zt_m2 233 rfl rfl, wn_G_topAwaited⟩
theorem ol_K_28 : ∀ w ∈ zwV "RangeReckoner$Tokens" 28 y_K_skipSpaces prog_7_method_4_code 1 none, w ∈ zT := List.forall_mem_cons.mpr ⟨zt_m2 54 rfl rfl, wn_K_skipSpaces⟩
theorem ol_K_41 : ∀ w ∈ zwV "RangeReckoner$Tokens" 41 y_K_readDigits prog_7_method_5_code 5 none, w ∈ zT := List.forall_mem_cons.mpr ⟨zt_m2 68 rfl rfl, wn_K_readDigits⟩
theorem ol_K_44 : ∀ w ∈ zwV "RangeReckoner$Tokens" 44 y_K_readVariable prog_7_method_6_code 3 none, w ∈ zT := List.forall_mem_cons.mpr ⟨zt_m2 74 rfl rfl, wn_K_readVariable⟩
theorem ol_K_47 : ∀ w ∈ zwV "RangeReckoner$Tokens" 47 y_K_readWord prog_7_method_7_code 1 none, w ∈ zT := List.forall_mem_cons.mpr ⟨zt_m2 78 rfl rfl, wn_K_readWord⟩
theorem ol_K_50 : ∀ w ∈ zwV "RangeReckoner$Tokens" 50 y_K_readMark prog_7_method_8_code 2 none, w ∈ zT := List.forall_mem_cons.mpr ⟨zt_m2 138 rfl rfl, wn_K_readMark⟩
theorem ol_K_70 : ∀ w ∈ zwS "RangeReckoner$Tokens" 70 y_K_doubleMark prog_7_method_9_code 2 (some .int), w ∈ zT := List.forall_mem_cons.mpr ⟨zt_m2 142 rfl rfl, wn_K_doubleMark⟩
theorem ol_K_74 : ∀ w ∈ zwS "RangeReckoner$Tokens" 74 y_K_singleMark prog_7_method_10_code 1 (some .int), w ∈ zT := List.forall_mem_cons.mpr ⟨zt_m2 145 rfl rfl, wn_K_singleMark⟩
theorem ol_M_79 : ∀ w ∈ zwS "RangeReckonerModel" 79 y_M_sign prog_10_method_5_code 3 (some .int), w ∈ zT := List.forall_mem_cons.mpr ⟨zt_m4 125 rfl rfl, wn_M_sign⟩
theorem ol_M_89 : ∀ w ∈ zwV "RangeReckonerModel" 89 y_M_at prog_10_method_7_code 2 (some .int), w ∈ zT := List.forall_mem_cons.mpr ⟨zt_m4 136 rfl rfl, wn_M_at⟩
theorem ol_M_106 : ∀ w ∈ zwV "RangeReckonerModel" 106 y_M_isDigit prog_10_method_8_code 2 (some .boolean), w ∈ zT := List.forall_mem_cons.mpr ⟨zt_m4 140 rfl rfl, wn_M_isDigit⟩
theorem ol_M_114 : ∀ w ∈ zwV "RangeReckonerModel" 114 y_M_stands prog_10_method_9_code 4 (some .boolean), w ∈ zT := List.forall_mem_cons.mpr ⟨zt_m4 146 rfl rfl, wn_M_stands⟩
theorem ol_M_124 : ∀ w ∈ zwV "RangeReckonerModel" 124 y_M_bad prog_10_method_12_code 3 none, w ∈ zT := List.forall_mem_cons.mpr ⟨zt_m4 158 rfl rfl, wn_M_bad⟩
theorem ol_M_134 : ∀ w ∈ zwV "RangeReckonerModel" 134 y_M_hold prog_10_method_14_code 3 none, w ∈ zT := List.forall_mem_cons.mpr ⟨zt_m4 170 rfl rfl, wn_M_hold⟩
theorem ol_M_140 : ∀ w ∈ zwS "RangeReckonerModel" 140 y_M_lesser prog_10_method_19_code 4 (some .long), w ∈ zT := List.forall_mem_cons.mpr ⟨zt_m4 197 rfl rfl, wn_M_lesser⟩
theorem ol_M_147 : ∀ w ∈ zwS "RangeReckonerModel" 147 y_M_greater prog_10_method_20_code 4 (some .long), w ∈ zT := List.forall_mem_cons.mpr ⟨zt_m4 200 rfl rfl, wn_M_greater⟩
theorem ol_M_153 : ∀ w ∈ zwV "RangeReckonerModel" 153 y_M_pop prog_10_method_18_code 1 (some .int), w ∈ zT := List.forall_mem_cons.mpr ⟨zt_m4 189 rfl rfl, wn_M_pop⟩
theorem ol_M_157 : ∀ w ∈ zwS "RangeReckonerModel" 157 y_M_rank prog_10_method_11_code 1 (some .int), w ∈ zT := List.forall_mem_cons.mpr ⟨zt_m4 182 rfl rfl, wn_M_rank⟩
theorem ol_M_160 : ∀ w ∈ zwV "RangeReckonerModel" 160 y_M_ends prog_10_method_22_code 9 none, w ∈ zT := List.forall_mem_cons.mpr ⟨zt_m4 193 rfl rfl, wn_M_ends⟩
theorem ol_M_164 : ∀ w ∈ zwS "RangeReckonerModel" 164 y_M_size prog_10_method_21_code 2 (some .long), w ∈ zT := List.forall_mem_cons.mpr ⟨zt_m4 203 rfl rfl, wn_M_size⟩
theorem ol_M_167 : ∀ w ∈ zwV "RangeReckonerModel" 167 y_M_part5 prog_10_method_13_code 8 (some .int), w ∈ zT := List.forall_mem_cons.mpr ⟨zt_m4 154 rfl rfl, wn_M_part5⟩
theorem ol_M_171 : ∀ w ∈ zwV "RangeReckonerModel" 171 y_M_push prog_10_method_17_code 2 none, w ∈ zT := List.forall_mem_cons.mpr ⟨zt_m4 162 rfl rfl, wn_M_push⟩
theorem ol_M_175 : ∀ w ∈ zwV "RangeReckonerModel" 175 y_M_topOp prog_10_method_16_code 1 (some .int), w ∈ zT := List.forall_mem_cons.mpr ⟨zt_m4 178 rfl rfl, wn_M_topOp⟩
theorem ol_M_178 : ∀ w ∈ zwV "RangeReckonerModel" 178 y_M_doTwo prog_10_method_23_code 20 none, w ∈ zT := List.forall_mem_cons.mpr ⟨zt_m4 185 rfl rfl, wn_M_doTwo⟩
theorem ol_M_181 : ∀ w ∈ zwV "RangeReckonerModel" 181 y_M_doOne prog_10_method_24_code 14 none, w ∈ zT := List.forall_mem_cons.mpr ⟨zt_m4 206 rfl rfl, wn_M_doOne⟩
theorem ol_M_184 : ∀ w ∈ zwV "RangeReckonerModel" 184 y_M_doAll prog_10_method_27_code 2 none, w ∈ zT := List.forall_mem_cons.mpr ⟨zt_m4 214 rfl rfl, wn_M_doAll⟩
theorem ol_M_187 : ∀ w ∈ zwV "RangeReckonerModel" 187 y_M_doChoice prog_10_method_25_code 6 none, w ∈ zT := List.forall_mem_cons.mpr ⟨zt_m4 222 rfl rfl, wn_M_doChoice⟩
theorem ol_M_190 : ∀ w ∈ zwV "RangeReckonerModel" 190 y_M_enter prog_10_method_15_code 2 none, w ∈ zT := List.forall_mem_cons.mpr ⟨zt_m4 166 rfl rfl, wn_M_enter⟩
theorem ol_M_193 : ∀ w ∈ zwV "RangeReckonerModel" 193 y_M_next prog_10_method_10_code 4 none, w ∈ zT := List.forall_mem_cons.mpr ⟨zt_m4 132 rfl rfl, wn_M_next⟩
theorem ol_M_196 : ∀ w ∈ zwV "RangeReckonerModel" 196 y_M_termEnds prog_10_method_28_code 3 none, w ∈ zT := List.forall_mem_cons.mpr ⟨zt_m4 218 rfl rfl, wn_M_termEnds⟩
theorem ol_M_199 : ∀ w ∈ zwV "RangeReckonerModel" 199 y_M_termFault prog_10_method_31_code 1 none, w ∈ zT := List.forall_mem_cons.mpr ⟨zt_m4 226 rfl rfl, wn_M_termFault⟩
theorem ol_M_202 : ∀ w ∈ zwV "RangeReckonerModel" 202 y_M_wasRead prog_10_method_26_code 4 none, w ∈ zT := List.forall_mem_cons.mpr ⟨zt_m4 174 rfl rfl, wn_M_wasRead⟩
theorem ol_M_205 : ∀ w ∈ zwV "RangeReckonerModel" 205 y_M_begins prog_10_method_29_code 1 (some .boolean), w ∈ zT := List.forall_mem_cons.mpr ⟨zt_m4 150 rfl rfl, wn_M_begins⟩
theorem ol_M_209 : ∀ w ∈ zwV "RangeReckonerModel" 209 y_M_goesOn prog_10_method_30_code 5 (some .boolean), w ∈ zT := List.forall_mem_cons.mpr ⟨zt_m4 210 rfl rfl, wn_M_goesOn⟩
theorem ol_M_215 : ∀ w ∈ zwS "RangeReckonerModel" 215 y_M_truth prog_10_method_34_code 1 (some .long), w ∈ zT := List.forall_mem_cons.mpr ⟨zt_m5 2 rfl rfl, wn_M_truth⟩
theorem ol_M_219 : ∀ w ∈ zwV "RangeReckonerModel" 219 y_M_worthOf prog_10_method_35_code 7 (some .long), w ∈ zT := List.forall_mem_cons.mpr ⟨zt_m4 238 rfl rfl, wn_M_worthOf⟩
theorem ol_N_22 : ∀ w ∈ zwV "RangeReckoner$Range" 22 y_N_put prog_4_method_2_code 5 none, w ∈ zT := List.forall_mem_cons.mpr ⟨zt_m3 47 rfl rfl, wn_N_put⟩
theorem ol_N_26 : ∀ w ∈ zwV "RangeReckoner$Range" 26 y_N_cover prog_4_method_6_code 9 none, w ∈ zT := List.forall_mem_cons.mpr ⟨zt_m3 48 rfl rfl, wn_N_cover⟩
theorem ol_N_30 : ∀ w ∈ zwV "RangeReckoner$Range" 30 y_N_reckonRest prog_4_method_7_code 5 none, w ∈ zT := List.forall_mem_cons.mpr ⟨zt_m3 58 rfl rfl, wn_N_reckonRest⟩
theorem ol_N_43 : ∀ w ∈ zwV "RangeReckoner$Range" 43 y_N_reckonSize prog_4_method_8_code 6 none, w ∈ zT := List.forall_mem_cons.mpr ⟨zt_m3 65 rfl rfl, wn_N_reckonSize⟩
theorem ol_N_51 : ∀ w ∈ zwV "RangeReckoner$Range" 51 y_N_hasZero prog_4_method_4_code 1 (some .boolean), w ∈ zT := List.forall_mem_cons.mpr ⟨zt_m3 69 rfl rfl, wn_N_hasZero⟩
theorem ol_P_62 : ∀ w ∈ zwV "RangeReckoner$Parser" 62 y_P_restart prog_2_method_3_code 2 none, w ∈ zT := List.forall_mem_cons.mpr ⟨zt_m2 34 rfl rfl, wn_P_restart⟩
theorem ol_P_69 : ∀ w ∈ zwV "RangeReckoner$Parser" 69 y_P_readOperand prog_2_method_5_code 1 none, w ∈ zT := List.forall_mem_cons.mpr ⟨zt_m2 148 rfl rfl, wn_P_readOperand⟩
theorem ol_P_72 : ∀ w ∈ zwV "RangeReckoner$Parser" 72 y_P_readBracket prog_2_method_7_code 1 none, w ∈ zT := List.forall_mem_cons.mpr ⟨zt_m2 206 rfl rfl, wn_P_readBracket⟩
theorem ol_P_75 : ∀ w ∈ zwV "RangeReckoner$Parser" 75 y_P_goesOn prog_2_method_11_code 3 (some .boolean), w ∈ zT := List.forall_mem_cons.mpr ⟨zt_m2 210 rfl rfl, wn_P_goesOn⟩
theorem ol_P_79 : ∀ w ∈ zwV "RangeReckoner$Parser" 79 y_P_endTerm prog_2_method_13_code 3 none, w ∈ zT := List.forall_mem_cons.mpr ⟨zt_m3 89 rfl rfl, wn_P_endTerm⟩
theorem ol_P_103 : ∀ w ∈ zwV "RangeReckoner$Parser" 103 y_P_addPart prog_2_method_9_code 5 none, w ∈ zT := List.forall_mem_cons.mpr ⟨zt_m2 156 rfl rfl, wn_P_addPart⟩
theorem ol_P_107 : ∀ w ∈ zwV "RangeReckoner$Parser" 107 y_P_readVariable prog_2_method_6_code 2 none, w ∈ zT := List.forall_mem_cons.mpr ⟨zt_m2 181 rfl rfl, wn_P_readVariable⟩
theorem ol_P_110 : ∀ w ∈ zwV "RangeReckoner$Parser" 110 y_P_nest prog_2_method_8_code 3 none, w ∈ zT := List.forall_mem_cons.mpr ⟨zt_m2 195 rfl rfl, wn_P_nest⟩
theorem ol_P_114 : ∀ w ∈ zwV "RangeReckoner$Parser" 114 y_P_blame prog_2_method_4_code 3 none, w ∈ zT := List.forall_mem_cons.mpr ⟨zt_m2 164 rfl rfl, wn_P_blame⟩
theorem ol_P_162 : ∀ w ∈ zwS "RangeReckoner$Parser" 162 y_P_leastSettledBy prog_2_method_12_code 2 (some .int), w ∈ zT := List.forall_mem_cons.mpr ⟨zt_m2 217 rfl rfl, wn_P_leastSettledBy⟩
theorem ol_P_165 : ∀ w ∈ zwV "RangeReckoner$Parser" 165 y_P_settle prog_2_method_16_code 3 none, w ∈ zT := List.forall_mem_cons.mpr ⟨zt_m2 220 rfl rfl, wn_P_settle⟩
theorem ol_P_182 : ∀ w ∈ zwV "RangeReckoner$Parser" 182 y_P_combine prog_2_method_17_code 6 none, w ∈ zT := List.forall_mem_cons.mpr ⟨zt_m2 238 rfl rfl, wn_P_combine⟩
theorem ol_P_185 : ∀ w ∈ zwV "RangeReckoner$Parser" 185 y_P_readBehindTerm prog_2_method_14_code 4 none, w ∈ zT := List.forall_mem_cons.mpr ⟨zt_m3 97 rfl rfl, wn_P_readBehindTerm⟩
theorem ol_P_189 : ∀ w ∈ zwS "RangeReckoner$Parser" 189 y_P_tokenDue prog_2_method_15_code 2 (some .int), w ∈ zT := List.forall_mem_cons.mpr ⟨zt_m3 101 rfl rfl, wn_P_tokenDue⟩
theorem ol_P_203 : ∀ w ∈ zwV "RangeReckoner$Parser" 203 y_P_popLoose prog_2_method_10_code 1 (some .int), w ∈ zT := List.forall_mem_cons.mpr ⟨zt_m3 11 rfl rfl, wn_P_popLoose⟩
theorem ol_P_211 : ∀ w ∈ zwV "RangeReckoner$Parser" 211 y_P_kindsFit prog_2_method_18_code 5 (some .boolean), w ∈ zT := List.forall_mem_cons.mpr ⟨zt_m3 28 rfl rfl, wn_P_kindsFit⟩
theorem ol_P_228 : ∀ w ∈ zwV "RangeReckoner$Parser" 228 y_P_kindGiven prog_2_method_19_code 5 (some .int), w ∈ zT := List.forall_mem_cons.mpr ⟨zt_m3 76 rfl rfl, wn_P_kindGiven⟩
theorem ol_T_51 : ∀ w ∈ zwV "RangeReckoner$Term" 51 y_T_has prog_6_method_3_code 2 (some .boolean), w ∈ zT := List.forall_mem_cons.mpr ⟨zt_m2 177 rfl rfl, wn_T_has⟩
theorem ol_T_55 : ∀ w ∈ zwV "RangeReckoner$Term" 55 y_T_isFull prog_6_method_4_code 1 (some .boolean), w ∈ zT := List.forall_mem_cons.mpr ⟨zt_m2 172 rfl rfl, wn_T_isFull⟩
theorem ol_T_59 : ∀ w ∈ zwV "RangeReckoner$Term" 59 y_T_depthOf prog_6_method_9_code 2 (some .int), w ∈ zT := List.forall_mem_cons.mpr ⟨zt_m3 84 rfl rfl, wn_T_depthOf⟩
theorem ol_T_69 : ∀ w ∈ zwV "RangeReckoner$Term" 69 y_T_work prog_6_method_15_code 8 (some .long), w ∈ zT := List.forall_mem_cons.mpr ⟨zt_m3 212 rfl rfl, wn_T_work⟩
theorem ol_T_73 : ∀ w ∈ zwV "RangeReckoner$Term" 73 y_T_workedOut prog_6_method_14_code 2 (some .long), w ∈ zT := List.forall_mem_cons.mpr ⟨zt_m3 216 rfl rfl, wn_T_workedOut⟩
theorem ol_T_77 : ∀ w ∈ zwV "RangeReckoner$Term" 77 y_T_lowOf prog_6_method_7_code 2 (some .int), w ∈ zT := List.forall_mem_cons.mpr ⟨zt_m3 220 rfl rfl, wn_T_lowOf⟩
theorem ol_T_85 : ∀ w ∈ zwV "RangeReckoner$Term" 85 y_T_kindOf prog_6_method_6_code 2 (some .int), w ∈ zT := List.forall_mem_cons.mpr ⟨zt_m3 225 rfl rfl, wn_T_kindOf⟩
theorem ol_T_88 : ∀ w ∈ zwS "RangeReckoner$Term" 88 y_T_numberOf prog_6_method_16_code 5 (some .long), w ∈ zT := List.forall_mem_cons.mpr ⟨zt_m3 226 rfl rfl, wn_T_numberOf⟩
theorem ol_T_92 : ∀ w ∈ zwS "RangeReckoner$Term" 92 y_T_isTrue prog_6_method_17_code 5 (some .boolean), w ∈ zT := List.forall_mem_cons.mpr ⟨zt_m3 232 rfl rfl, wn_T_isTrue⟩
theorem ol_V_36 : ∀ w ∈ zwV "RangeReckoner$Variables" 36 y_V_has prog_8_method_2_code 2 (some .boolean), w ∈ zT := List.forall_mem_cons.mpr ⟨zt_m2 10 rfl rfl, wn_V_has⟩
theorem jw_327 : (Cond.methodLink "RangeReckoner$Tape" (23 : Nat) ({ cls := "java/lang/String", name := "length", desc := "()I" } : MethodName)) ∈ zT := zt_m2 87 rfl rfl
theorem jw_328 : (Cond.instanceMethod ({ cls := "java/lang/String", name := "length", desc := "()I" } : MethodName)) ∈ zT := zt_m2 88 rfl rfl
theorem jw_329 : (Cond.selects "java/lang/String" ({ cls := "java/lang/String", name := "length", desc := "()I" } : MethodName) ({ cls := "java/lang/String", name := "length", desc := "()I" } : MethodName)) ∈ zT := zt_m2 89 rfl rfl
theorem jw_330 : (Cond.code ({ cls := "java/lang/String", name := "length", desc := "()I" } : MethodName) prog_15_method_54_code (1 : Nat) (Option.some ClassFile.FieldType.int)) ∈ zT := zt_m2 90 rfl rfl
theorem jw_331 : (Cond.methodLink "java/lang/String" (335 : Nat) ({ cls := "java/lang/String", name := "coder", desc := "()B" } : MethodName)) ∈ zT := zt_m2 91 rfl rfl
theorem jw_332 : (Cond.instanceMethod ({ cls := "java/lang/String", name := "coder", desc := "()B" } : MethodName)) ∈ zT := zt_m2 92 rfl rfl
theorem jw_333 : (Cond.selects "java/lang/String" ({ cls := "java/lang/String", name := "coder", desc := "()B" } : MethodName) ({ cls := "java/lang/String", name := "coder", desc := "()B" } : MethodName)) ∈ zT := zt_m2 93 rfl rfl
theorem jw_334 : (Cond.code ({ cls := "java/lang/String", name := "coder", desc := "()B" } : MethodName) prog_15_method_152_code (1 : Nat) (Option.some ClassFile.FieldType.byte)) ∈ zT := zt_m2 94 rfl rfl
theorem jw_335 : (Cond.fieldLink "java/lang/String" (38 : Nat) "java/lang/String" "COMPACT_STRINGS" "Z") ∈ zT := zt_m2 95 rfl rfl
theorem jw_337 : (Cond.methodLink "RangeReckoner$Tape" (28 : Nat) ({ cls := "RangeReckoner$Tape", name := "signAt", desc := "(I)I" } : MethodName)) ∈ zT := zt_m2 97 rfl rfl
theorem jw_338 : (Cond.methodLink "RangeReckoner$Tape" (32 : Nat) ({ cls := "java/lang/String", name := "charAt", desc := "(I)C" } : MethodName)) ∈ zT := zt_m2 98 rfl rfl
theorem jw_339 : (Cond.instanceMethod ({ cls := "java/lang/String", name := "charAt", desc := "(I)C" } : MethodName)) ∈ zT := zt_m2 99 rfl rfl
theorem jw_340 : (Cond.selects "java/lang/String" ({ cls := "java/lang/String", name := "charAt", desc := "(I)C" } : MethodName) ({ cls := "java/lang/String", name := "charAt", desc := "(I)C" } : MethodName)) ∈ zT := zt_m2 100 rfl rfl
theorem jw_341 : (Cond.code ({ cls := "java/lang/String", name := "charAt", desc := "(I)C" } : MethodName) prog_15_method_56_code (2 : Nat) (Option.some ClassFile.FieldType.char)) ∈ zT := zt_m2 101 rfl rfl
theorem jw_342 : (Cond.methodLink "java/lang/String" (492 : Nat) ({ cls := "java/lang/String", name := "isLatin1", desc := "()Z" } : MethodName)) ∈ zT := zt_m2 102 rfl rfl
theorem jw_343 : (Cond.instanceMethod ({ cls := "java/lang/String", name := "isLatin1", desc := "()Z" } : MethodName)) ∈ zT := zt_m2 103 rfl rfl
theorem jw_344 : (Cond.selects "java/lang/String" ({ cls := "java/lang/String", name := "isLatin1", desc := "()Z" } : MethodName) ({ cls := "java/lang/String", name := "isLatin1", desc := "()Z" } : MethodName)) ∈ zT := zt_m2 104 rfl rfl
theorem jw_345 : (Cond.code ({ cls := "java/lang/String", name := "isLatin1", desc := "()Z" } : MethodName) prog_15_method_154_code (1 : Nat) (Option.some ClassFile.FieldType.boolean)) ∈ zT := zt_m2 105 rfl rfl
theorem jw_346 : (Cond.methodLink "java/lang/String" (495 : Nat) ({ cls := "java/lang/StringLatin1", name := "charAt", desc := "([BI)C" } : MethodName)) ∈ zT := zt_m2 106 rfl rfl
theorem jw_347 : (Cond.static ({ cls := "java/lang/StringLatin1", name := "charAt", desc := "([BI)C" } : MethodName)) ∈ zT := zt_m2 107 rfl rfl
theorem jw_348 : (Cond.code ({ cls := "java/lang/StringLatin1", name := "charAt", desc := "([BI)C" } : MethodName) prog_16_method_2_code (2 : Nat) (Option.some ClassFile.FieldType.char)) ∈ zT := zt_m2 108 rfl rfl
theorem jw_349 : (Cond.methodLink "java/lang/StringLatin1" (9 : Nat) ({ cls := "java/lang/String", name := "checkIndex", desc := "(II)V" } : MethodName)) ∈ zT := zt_m2 109 rfl rfl
theorem jw_350 : (Cond.static ({ cls := "java/lang/String", name := "checkIndex", desc := "(II)V" } : MethodName)) ∈ zT := zt_m2 110 rfl rfl
theorem jw_351 : (Cond.code ({ cls := "java/lang/String", name := "checkIndex", desc := "(II)V" } : MethodName) prog_15_method_155_code (2 : Nat) (Option.none : Option ClassFile.FieldType)) ∈ zT := zt_m2 111 rfl rfl
theorem jw_352 : (Cond.fieldLink "java/lang/String" (1053 : Nat) "jdk/internal/util/Preconditions" "SIOOBE_FORMATTER" "Ljava/util/function/BiFunction;") ∈ zT := zt_m2 112 rfl rfl
theorem jw_354 : (Cond.methodLink "java/lang/String" (1059 : Nat) ({ cls := "jdk/internal/util/Preconditions", name := "checkIndex", desc := "(IILjava/util/function/BiFunction;)I" } : MethodName)) ∈ zT := zt_m2 114 rfl rfl
theorem jw_355 : (Cond.static ({ cls := "jdk/internal/util/Preconditions", name := "checkIndex", desc := "(IILjava/util/function/BiFunction;)I" } : MethodName)) ∈ zT := zt_m2 115 rfl rfl
theorem jw_356 : (Cond.code ({ cls := "jdk/internal/util/Preconditions", name := "checkIndex", desc := "(IILjava/util/function/BiFunction;)I" } : MethodName) prog_19_method_11_code (3 : Nat) (Option.some ClassFile.FieldType.int)) ∈ zT := zt_m2 116 rfl rfl
theorem jw_975 : (Cond.fieldLink "java/lang/String" (9 : Nat) "java/lang/String" "value" "[B") ∈ zT := zt_m5 15 rfl rfl
theorem jw_976 : (Cond.fieldLink "java/lang/String" (15 : Nat) "java/lang/String" "coder" "B") ∈ zT := zt_m5 16 rfl rfl
theorem jw_iS : Cond.initialized "java/lang/String" ∈ zT := zt_m1 11 rfl rfl
theorem jw_iL : Cond.initialized "java/lang/StringLatin1" ∈ zT := zt_m1 12 rfl rfl
theorem jw_iP : Cond.initialized "jdk/internal/util/Preconditions" ∈ zT := zt_m1 13 rfl rfl
theorem mk_ini : Cond.initialized "java/lang/Math" ∈ zT := zt_m1 10 rfl rfl
theorem mk_Lib_Math_max_s : Cond.static Lib.Math.max.name ∈ zT := zt_m2 0 rfl rfl
theorem mk_Lib_Math_max_c : Cond.code Lib.Math.max.name Lib.Math.max.code 2 (some .int) ∈ zT := zt_mem 241 (by decide +kernel) (by decide +kernel)
theorem mk_Lib_Math_min_s : Cond.static Lib.Math.min.name ∈ zT := zt_m1 237 rfl rfl
theorem mk_Lib_Math_min_c : Cond.code Lib.Math.min.name Lib.Math.min.code 2 (some .int) ∈ zT := zt_mem 238 (by decide +kernel) (by decide +kernel)
theorem mk_Lib_MathLoose_abs_long_s : Cond.static Lib.MathLoose.abs_long.x ∈ zT := zt_m3 63 rfl rfl
theorem mk_Lib_MathLoose_abs_long_c : Cond.code Lib.MathLoose.abs_long.x Lib.MathLoose.abs_long.code 2 (some .long) ∈ zT := zt_mem 544 (by decide +kernel) (by decide +kernel)
theorem mk_Lib_MathLoose_max_long_s : Cond.static Lib.MathLoose.max_long.x ∈ zT := zt_m3 56 rfl rfl
theorem mk_Lib_MathLoose_max_long_c : Cond.code Lib.MathLoose.max_long.x Lib.MathLoose.max_long.code 4 (some .long) ∈ zT := zt_mem 537 (by decide +kernel) (by decide +kernel)
theorem mk_Lib_MathLoose_min_long_s : Cond.static Lib.MathLoose.min_long.x ∈ zT := zt_m3 53 rfl rfl
theorem mk_Lib_MathLoose_min_long_c : Cond.code Lib.MathLoose.min_long.x Lib.MathLoose.min_long.code 4 (some .long) ∈ zT := zt_mem 534 (by decide +kernel) (by decide +kernel)
end
section
theorem d_A_appendWord_0 : decode prog_5_method_6_code 0 = .ok (.iload_n 2, 1) := by decide +kernel
theorem d_A_appendWord_1 : decode prog_5_method_6_code 1 = .ok (.istore_n 3, 1) := by decide +kernel
theorem d_A_appendWord_2 : decode prog_5_method_6_code 2 = .ok (.bipush (24), 2) := by decide +kernel
theorem d_A_appendWord_4 : decode prog_5_method_6_code 4 = .ok (.istore 4, 2) := by decide +kernel
theorem d_A_appendWord_6 : decode prog_5_method_6_code 6 = .ok (.iload 4, 2) := by decide +kernel
theorem d_A_appendWord_8 : decode prog_5_method_6_code 8 = .ok (.ifCond .lt (65), 3) := by decide +kernel
theorem d_A_appendWord_11 : decode prog_5_method_6_code 11 = .ok (.iload_n 1, 1) := by decide +kernel
theorem d_A_appendWord_12 : decode prog_5_method_6_code 12 = .ok (.iload 4, 2) := by decide +kernel
theorem d_A_appendWord_14 : decode prog_5_method_6_code 14 = .ok (.iushr, 1) := by decide +kernel
theorem d_A_appendWord_15 : decode prog_5_method_6_code 15 = .ok (.sipush (255), 3) := by decide +kernel
theorem d_A_appendWord_18 : decode prog_5_method_6_code 18 = .ok (.iand, 1) := by decide +kernel
theorem d_A_appendWord_19 : decode prog_5_method_6_code 19 = .ok (.istore 5, 2) := by decide +kernel
theorem d_A_appendWord_21 : decode prog_5_method_6_code 21 = .ok (.iload 5, 2) := by decide +kernel
theorem d_A_appendWord_23 : decode prog_5_method_6_code 23 = .ok (.ifCond .ne (6), 3) := by decide +kernel
theorem d_A_appendWord_26 : decode prog_5_method_6_code 26 = .ok (.goto (41), 3) := by decide +kernel
theorem d_A_appendWord_29 : decode prog_5_method_6_code 29 = .ok (.iload 5, 2) := by decide +kernel
theorem d_A_appendWord_31 : decode prog_5_method_6_code 31 = .ok (.bipush (32), 2) := by decide +kernel
theorem d_A_appendWord_33 : decode prog_5_method_6_code 33 = .ok (.if_icmp .lt (21), 3) := by decide +kernel
theorem d_A_appendWord_36 : decode prog_5_method_6_code 36 = .ok (.iload 5, 2) := by decide +kernel
theorem d_A_appendWord_38 : decode prog_5_method_6_code 38 = .ok (.bipush (126), 2) := by decide +kernel
theorem d_A_appendWord_40 : decode prog_5_method_6_code 40 = .ok (.if_icmp .gt (14), 3) := by decide +kernel
theorem d_A_appendWord_43 : decode prog_5_method_6_code 43 = .ok (.iload_n 3, 1) := by decide +kernel
theorem d_A_appendWord_44 : decode prog_5_method_6_code 44 = .ok (.ifCond .lt (10), 3) := by decide +kernel
theorem d_A_appendWord_47 : decode prog_5_method_6_code 47 = .ok (.iload_n 3, 1) := by decide +kernel
theorem d_A_appendWord_48 : decode prog_5_method_6_code 48 = .ok (.sipush (400), 3) := by decide +kernel
theorem d_A_appendWord_51 : decode prog_5_method_6_code 51 = .ok (.if_icmp .lt (5), 3) := by decide +kernel
theorem d_A_appendWord_54 : decode prog_5_method_6_code 54 = .ok (.iconst (-1), 1) := by decide +kernel
theorem d_A_appendWord_55 : decode prog_5_method_6_code 55 = .ok (.ireturn, 1) := by decide +kernel
theorem d_A_appendWord_56 : decode prog_5_method_6_code 56 = .ok (.aload_n 0, 1) := by decide +kernel
theorem d_A_appendWord_57 : decode prog_5_method_6_code 57 = .ok (.getfield 9, 3) := by decide +kernel
theorem d_A_appendWord_60 : decode prog_5_method_6_code 60 = .ok (.iload_n 3, 1) := by decide +kernel
theorem d_A_appendWord_61 : decode prog_5_method_6_code 61 = .ok (.iload 5, 2) := by decide +kernel
theorem d_A_appendWord_63 : decode prog_5_method_6_code 63 = .ok (.iastore, 1) := by decide +kernel
theorem d_A_appendWord_64 : decode prog_5_method_6_code 64 = .ok (.iinc 3 (1), 3) := by decide +kernel
theorem d_A_appendWord_67 : decode prog_5_method_6_code 67 = .ok (.iinc 4 (-8), 3) := by decide +kernel
theorem d_A_appendWord_70 : decode prog_5_method_6_code 70 = .ok (.goto (-64), 3) := by decide +kernel
theorem d_A_appendWord_73 : decode prog_5_method_6_code 73 = .ok (.iload_n 3, 1) := by decide +kernel
theorem d_A_appendWord_74 : decode prog_5_method_6_code 74 = .ok (.ireturn, 1) := by decide +kernel
def b_A_appendWord_67 (post : Int32 → zH → Prop) (rc : Int32 → Int32 → Int32 → zH → Prop) (l1 : Int32) (l3 : Int32) (l4 : Int32) (h : zH) : Prop := rc (l1) (l3) ((l4 + (-8))) h
def b_A_appendWord_54 (post : Int32 → zH → Prop) (h : zH) : Prop := post (-1) h
def b_A_appendWord_6 (post : Int32 → zH → Prop) : Nat → Int32 → Int32 → Int32 → zH → Prop
  | 0, _, _, _, _ => False
  | n + 1, l1, l3, l4, h => (fun rc : Int32 → Int32 → Int32 → zH → Prop => ((l4 < 0 → post l3 h) ∧ (¬ l4 < 0 → ((¬ (((l1).toUInt32 >>> ((l4 : Int32).toUInt32 &&& Int32.toUInt32 31)).toInt32 &&& 255) = 0 → (((((l1).toUInt32 >>> ((l4 : Int32).toUInt32 &&& Int32.toUInt32 31)).toInt32 &&& 255) < 32 → b_A_appendWord_54 post  h) ∧ (¬ (((l1).toUInt32 >>> ((l4 : Int32).toUInt32 &&& Int32.toUInt32 31)).toInt32 &&& 255) < 32 → ((126 < (((l1).toUInt32 >>> ((l4 : Int32).toUInt32 &&& Int32.toUInt32 31)).toInt32 &&& 255) → b_A_appendWord_54 post  h) ∧ (¬ 126 < (((l1).toUInt32 >>> ((l4 : Int32).toUInt32 &&& Int32.toUInt32 31)).toInt32 &&& 255) → ((l3 < 0 → b_A_appendWord_54 post  h) ∧ (¬ l3 < 0 → ((l3 < 400 → (vp_in l3 400 ∧ ∀ h1 : zH, h1 = zi h 6 (l3 : Int32).toNatClampNeg (((l1).toUInt32 >>> ((l4 : Int32).toUInt32 &&& Int32.toUInt32 31)).toInt32 &&& 255) → b_A_appendWord_67 post rc (l1) ((l3 + 1)) (l4) h1)) ∧ (¬ l3 < 400 → b_A_appendWord_54 post  h))))))))) ∧ ((((l1).toUInt32 >>> ((l4 : Int32).toUInt32 &&& Int32.toUInt32 31)).toInt32 &&& 255) = 0 → b_A_appendWord_67 post rc (l1) (l3) (l4) h))))) (b_A_appendWord_6 post n)
def wp_A_appendWord (l1 : Int32) (l2 : Int32) (h : zH) (post : Int32 → zH → Prop) : Prop := (∃ n : Nat, b_A_appendWord_6 post n (l1) (l2) (24) h)
set_option maxRecDepth 100000 in
set_option maxHeartbeats 4000000 in
theorem w_A_appendWord_67 {l : Launch} {E : zE} {G : (Nat → Prop) → State → Prop} {p : Program} {e : Env} {s : State} {m : MethodId} {args : Array Value} {below : List Frame} {meth : Method} {c : Code} {A : Nat → Prop} {post : Int32 → zH → Prop} (hG : xGG E G) (C : zCx p s m args meth c E G A 0 0 prog_5_method_6_code 6 cn_A) (hr : meth.sig.returnType = (some .int)) {rc : Int32 → Int32 → Int32 → zH → Prop} (hrc : ∀ (l1 : Int32) (l3 : Int32) (l4 : Int32) (h : zH), rc l1 l3 l4 h → zGo p l e s m args below meth c E A 0 0 6 (zPi post) h 6 [some (.ref (E.2.2.1 5)), some (.int l1), none, some (.int l3), some (.int l4), none] []) (l1 : Int32) (l3 : Int32) (l4 : Int32) (h : zH) (hw : b_A_appendWord_67 post rc l1 l3 l4 h) : zGo p l e s m args below meth c E A 0 0 6 (zPi post) h 67 [some (.ref (E.2.2.1 5)), some (.int l1), none, some (.int l3), some (.int l4), none] [] := by
  unfold b_A_appendWord_67 at hw
  refine z_iinc C (v := l4 + (-8)) d_A_appendWord_67 rfl rfl (by decide) rfl ?_
  refine z_goto C (tgt := 6) d_A_appendWord_70 (by decide) ?_
  refine z_le (lv2 := [some (.ref (E.2.2.1 5)), some (.int l1), none, some (.int l3), some (.int (l4 + (-8))), none]) (⟨rfl, ⟨rfl, ⟨rfl, ⟨rfl, trivial⟩⟩⟩⟩) ?_
  exact hrc _ _ _ _ hw
set_option maxRecDepth 100000 in
set_option maxHeartbeats 4000000 in
theorem w_A_appendWord_54 {l : Launch} {E : zE} {G : (Nat → Prop) → State → Prop} {p : Program} {e : Env} {s : State} {m : MethodId} {args : Array Value} {below : List Frame} {meth : Method} {c : Code} {A : Nat → Prop} {post : Int32 → zH → Prop} (hG : xGG E G) (C : zCx p s m args meth c E G A 0 0 prog_5_method_6_code 6 cn_A) (hr : meth.sig.returnType = (some .int))  (h : zH) (hw : b_A_appendWord_54 post  h) : zGo p l e s m args below meth c E A 0 0 6 (zPi post) h 54 [none, none, none, none, none, none] [] := by
  unfold b_A_appendWord_54 at hw
  refine z_iconst C (v := (-1)) d_A_appendWord_54 (by decide) ?_
  exact z_iret C hr d_A_appendWord_55 hw
set_option maxRecDepth 100000 in
set_option maxHeartbeats 4000000 in
theorem w_A_appendWord_6 {l : Launch} {E : zE} {G : (Nat → Prop) → State → Prop} {p : Program} {e : Env} {s : State} {m : MethodId} {args : Array Value} {below : List Frame} {meth : Method} {c : Code} {A : Nat → Prop} {post : Int32 → zH → Prop} (hG : xGG E G) (C : zCx p s m args meth c E G A 0 0 prog_5_method_6_code 6 cn_A) (hr : meth.sig.returnType = (some .int)) : ∀ (n : Nat) (l1 : Int32) (l3 : Int32) (l4 : Int32) (h : zH), b_A_appendWord_6 post n l1 l3 l4 h → zGo p l e s m args below meth c E A 0 0 6 (zPi post) h 6 [some (.ref (E.2.2.1 5)), some (.int l1), none, some (.int l3), some (.int l4), none] [] := by
  intro n
  induction n with
  | zero => intro l1 l3 l4 h hw; exact False.elim hw
  | succ n hrc =>
    intro l1 l3 l4 h hw
    unfold b_A_appendWord_6 at hw
    refine z_iload C d_A_appendWord_6 rfl ?_
    refine z_if_lt C (tgt := 73) d_A_appendWord_8 (by decide) (fun q => ?_) (fun q => ?_)
    · replace hw := hw.1 q
      refine z_iload_n C (i := 3) d_A_appendWord_73 rfl rfl ?_
      exact z_iret C hr d_A_appendWord_74 hw
    · replace hw := hw.2 q
      refine z_iload_n C (i := 1) d_A_appendWord_11 rfl rfl ?_
      refine z_iload C d_A_appendWord_12 rfl ?_
      refine z_iushr C d_A_appendWord_14 ?_
      refine z_sipush C (v := 255) d_A_appendWord_15 (by decide) ?_
      refine z_iand C d_A_appendWord_18 ?_
      refine z_istore C d_A_appendWord_19 (by decide) rfl ?_
      refine z_iload C d_A_appendWord_21 rfl ?_
      refine z_if_ne C (tgt := 29) d_A_appendWord_23 (by decide) (fun q => ?_) (fun q => ?_)
      · replace hw := hw.1 q
        refine z_iload C d_A_appendWord_29 rfl ?_
        refine z_bipush C (v := 32) d_A_appendWord_31 (by decide) ?_
        refine z_icmp_lt C (tgt := 54) d_A_appendWord_33 (by decide) (fun q => ?_) (fun q => ?_)
        · replace hw := hw.1 q
          refine z_le (lv2 := [none, none, none, none, none, none]) (trivial) ?_
          exact w_A_appendWord_54 hG C hr  _ hw
        · replace hw := hw.2 q
          refine z_iload C d_A_appendWord_36 rfl ?_
          refine z_bipush C (v := 126) d_A_appendWord_38 (by decide) ?_
          refine z_icmp_gt C (tgt := 54) d_A_appendWord_40 (by decide) (fun q => ?_) (fun q => ?_)
          · replace hw := hw.1 q
            refine z_le (lv2 := [none, none, none, none, none, none]) (trivial) ?_
            exact w_A_appendWord_54 hG C hr  _ hw
          · replace hw := hw.2 q
            refine z_iload_n C (i := 3) d_A_appendWord_43 rfl rfl ?_
            refine z_if_lt C (tgt := 54) d_A_appendWord_44 (by decide) (fun q => ?_) (fun q => ?_)
            · replace hw := hw.1 q
              refine z_le (lv2 := [none, none, none, none, none, none]) (trivial) ?_
              exact w_A_appendWord_54 hG C hr  _ hw
            · replace hw := hw.2 q
              refine z_iload_n C (i := 3) d_A_appendWord_47 rfl rfl ?_
              refine z_sipush C (v := 400) d_A_appendWord_48 (by decide) ?_
              refine z_icmp_lt C (tgt := 56) d_A_appendWord_51 (by decide) (fun q => ?_) (fun q => ?_)
              · replace hw := hw.1 q
                refine z_aload_n C (i := 0) d_A_appendWord_56 rfl rfl ?_
                refine z_getS C (ci := 2) (j := 0) (F := cf_A) (by decide) rfl rfl in_A (by decide) fl_A_9 rfl d_A_appendWord_57 ?_
                refine z_iload_n C (i := 3) d_A_appendWord_60 rfl rfl ?_
                refine z_iload C d_A_appendWord_61 rfl ?_
                refine z_iast C (by decide) rfl hw.1 d_A_appendWord_63 (fun h1 eh1 => ?_)
                replace hw := hw.2 h1 eh1
                refine z_iinc C (v := l3 + 1) d_A_appendWord_64 rfl rfl (by decide) rfl ?_
                refine z_le (lv2 := [some (.ref (E.2.2.1 5)), some (.int l1), none, some (.int (l3 + 1)), some (.int l4), none]) (⟨rfl, ⟨rfl, ⟨rfl, ⟨rfl, trivial⟩⟩⟩⟩) ?_
                exact w_A_appendWord_67 hG C hr hrc _ _ _ _ hw
              · replace hw := hw.2 q
                refine z_le (lv2 := [none, none, none, none, none, none]) (trivial) ?_
                exact w_A_appendWord_54 hG C hr  _ hw
      · replace hw := hw.2 q
        refine z_goto C (tgt := 67) d_A_appendWord_26 (by decide) ?_
        refine z_le (lv2 := [some (.ref (E.2.2.1 5)), some (.int l1), none, some (.int l3), some (.int l4), none]) (⟨rfl, ⟨rfl, ⟨rfl, ⟨rfl, trivial⟩⟩⟩⟩) ?_
        exact w_A_appendWord_67 hG C hr hrc _ _ _ _ hw
set_option maxRecDepth 100000 in
set_option maxHeartbeats 4000000 in
theorem t_A_appendWord {l : Launch} {E : zE} {G : (Nat → Prop) → State → Prop} (hG : xGG E G) {l1 : Int32} {l2 : Int32} {h : zH} {post : Int32 → zH → Prop} (hw : wp_A_appendWord l1 l2 h post) : Ct l xX E xcl xN zT G 0 0 y_A_appendWord prog_5_method_6_code 6 (some .int) [.ref (E.2.2.1 5), .int l1, .int l2] h (zPi post) := by
  unfold wp_A_appendWord at hw
  refine Ct.of (by decide) (Nat.le_of_ble_eq_true rfl) ?_
  intro p e s m below meth c A C hr
  refine z_lv (lv2 := [some (.ref (E.2.2.1 5)), some (.int l1), some (.int l2), none, none, none]) rfl ?_
  refine z_iload_n C (i := 2) d_A_appendWord_0 rfl rfl ?_
  refine z_istore_n C (i := 3) d_A_appendWord_1 rfl (by decide) rfl ?_
  refine z_bipush C (v := 24) d_A_appendWord_2 (by decide) ?_
  refine z_istore C d_A_appendWord_4 (by decide) rfl ?_
  refine z_le (lv2 := [some (.ref (E.2.2.1 5)), some (.int l1), none, some (.int l2), some (.int 24), none]) (⟨rfl, ⟨rfl, ⟨rfl, ⟨rfl, trivial⟩⟩⟩⟩) ?_
  obtain ⟨n, hw⟩ := hw
  exact w_A_appendWord_6 hG C hr n _ _ _ _ hw
theorem d_A_append_0 : decode prog_5_method_5_code 0 = .ok (.aload_n 0, 1) := by decide +kernel
theorem d_A_append_1 : decode prog_5_method_5_code 1 = .ok (.iload_n 1, 1) := by decide +kernel
theorem d_A_append_2 : decode prog_5_method_5_code 2 = .ok (.aload_n 0, 1) := by decide +kernel
theorem d_A_append_3 : decode prog_5_method_5_code 3 = .ok (.getfield 15, 3) := by decide +kernel
theorem d_A_append_6 : decode prog_5_method_5_code 6 = .ok (.invokevirtual 36, 3) := by decide +kernel
theorem d_A_append_9 : decode prog_5_method_5_code 9 = .ok (.istore_n 3, 1) := by decide +kernel
theorem d_A_append_10 : decode prog_5_method_5_code 10 = .ok (.iload_n 3, 1) := by decide +kernel
theorem d_A_append_11 : decode prog_5_method_5_code 11 = .ok (.iconst (-1), 1) := by decide +kernel
theorem d_A_append_12 : decode prog_5_method_5_code 12 = .ok (.if_icmp .eq (10), 3) := by decide +kernel
theorem d_A_append_15 : decode prog_5_method_5_code 15 = .ok (.aload_n 0, 1) := by decide +kernel
theorem d_A_append_16 : decode prog_5_method_5_code 16 = .ok (.iload_n 2, 1) := by decide +kernel
theorem d_A_append_17 : decode prog_5_method_5_code 17 = .ok (.iload_n 3, 1) := by decide +kernel
theorem d_A_append_18 : decode prog_5_method_5_code 18 = .ok (.invokevirtual 36, 3) := by decide +kernel
theorem d_A_append_21 : decode prog_5_method_5_code 21 = .ok (.istore_n 3, 1) := by decide +kernel
theorem d_A_append_22 : decode prog_5_method_5_code 22 = .ok (.iload_n 3, 1) := by decide +kernel
theorem d_A_append_23 : decode prog_5_method_5_code 23 = .ok (.iconst (-1), 1) := by decide +kernel
theorem d_A_append_24 : decode prog_5_method_5_code 24 = .ok (.if_icmp .eq (8), 3) := by decide +kernel
theorem d_A_append_27 : decode prog_5_method_5_code 27 = .ok (.aload_n 0, 1) := by decide +kernel
theorem d_A_append_28 : decode prog_5_method_5_code 28 = .ok (.iload_n 3, 1) := by decide +kernel
theorem d_A_append_29 : decode prog_5_method_5_code 29 = .ok (.putfield 15, 3) := by decide +kernel
theorem d_A_append_32 : decode prog_5_method_5_code 32 = .ok (.iload_n 3, 1) := by decide +kernel
theorem d_A_append_33 : decode prog_5_method_5_code 33 = .ok (.iconst (-1), 1) := by decide +kernel
theorem d_A_append_34 : decode prog_5_method_5_code 34 = .ok (.if_icmp .eq (7), 3) := by decide +kernel
theorem d_A_append_37 : decode prog_5_method_5_code 37 = .ok (.iconst 1, 1) := by decide +kernel
theorem d_A_append_38 : decode prog_5_method_5_code 38 = .ok (.goto (4), 3) := by decide +kernel
theorem d_A_append_41 : decode prog_5_method_5_code 41 = .ok (.iconst 0, 1) := by decide +kernel
theorem d_A_append_42 : decode prog_5_method_5_code 42 = .ok (.ireturn, 1) := by decide +kernel
def b_A_append_42 (post : Int32 → zH → Prop) (s0 : Int32) (h : zH) : Prop := (narrow .boolean (.int s0) = .int s0 ∧ post s0 h)
def b_A_append_32 (post : Int32 → zH → Prop) (l3 : Int32) (h : zH) : Prop := ((l3 = (-1) → b_A_append_42 post (0) h) ∧ (¬ l3 = (-1) → b_A_append_42 post (1) h))
def b_A_append_22 (post : Int32 → zH → Prop) (l3 : Int32) (h : zH) : Prop := ((l3 = (-1) → b_A_append_32 post (l3) h) ∧ (¬ l3 = (-1) → (∀ h1 : zH, h1 = zi h 5 1 l3 → b_A_append_32 post (l3) h1)))
def wp_A_append (l1 : Int32) (l2 : Int32) (h : zH) (post : Int32 → zH → Prop) : Prop := wp_A_appendWord (l1) ((h.1 5 1)) h (fun (r2 : Int32) (h3 : zH) => ((r2 = (-1) → b_A_append_22 post (r2) h3) ∧ (¬ r2 = (-1) → wp_A_appendWord (l2) (r2) h3 (fun (r4 : Int32) (h5 : zH) => b_A_append_22 post (r4) h5))))
set_option maxRecDepth 100000 in
set_option maxHeartbeats 4000000 in
theorem w_A_append_42 {l : Launch} {E : zE} {G : (Nat → Prop) → State → Prop} {p : Program} {e : Env} {s : State} {m : MethodId} {args : Array Value} {below : List Frame} {meth : Method} {c : Code} {A : Nat → Prop} {post : Int32 → zH → Prop} (hG : xGG E G) (C : zCx p s m args meth c E G A 1 25 prog_5_method_5_code 4 cn_A) (hr : meth.sig.returnType = (some .boolean))  (s0 : Int32) (h : zH) (hw : b_A_append_42 post s0 h) : zGo p l e s m args below meth c E A 1 25 4 (zPi post) h 42 [none, none, none, none] [.int s0] := by
  unfold b_A_append_42 at hw
  exact z_zret C hr hw.1 d_A_append_42 hw.2
set_option maxRecDepth 100000 in
set_option maxHeartbeats 4000000 in
theorem w_A_append_32 {l : Launch} {E : zE} {G : (Nat → Prop) → State → Prop} {p : Program} {e : Env} {s : State} {m : MethodId} {args : Array Value} {below : List Frame} {meth : Method} {c : Code} {A : Nat → Prop} {post : Int32 → zH → Prop} (hG : xGG E G) (C : zCx p s m args meth c E G A 1 25 prog_5_method_5_code 4 cn_A) (hr : meth.sig.returnType = (some .boolean))  (l3 : Int32) (h : zH) (hw : b_A_append_32 post l3 h) : zGo p l e s m args below meth c E A 1 25 4 (zPi post) h 32 [none, none, none, some (.int l3)] [] := by
  unfold b_A_append_32 at hw
  refine z_iload_n C (i := 3) d_A_append_32 rfl rfl ?_
  refine z_iconst C (v := (-1)) d_A_append_33 (by decide) ?_
  refine z_icmp_eq C (tgt := 41) d_A_append_34 (by decide) (fun q => ?_) (fun q => ?_)
  · replace hw := hw.1 q
    refine z_iconst C (v := 0) d_A_append_41 (by decide) ?_
    refine z_le (lv2 := [none, none, none, none]) (trivial) ?_
    exact w_A_append_42 hG C hr _ _ hw
  · replace hw := hw.2 q
    refine z_iconst C (v := 1) d_A_append_37 (by decide) ?_
    refine z_goto C (tgt := 42) d_A_append_38 (by decide) ?_
    refine z_le (lv2 := [none, none, none, none]) (trivial) ?_
    exact w_A_append_42 hG C hr _ _ hw
set_option maxRecDepth 100000 in
set_option maxHeartbeats 4000000 in
theorem w_A_append_22 {l : Launch} {E : zE} {G : (Nat → Prop) → State → Prop} {p : Program} {e : Env} {s : State} {m : MethodId} {args : Array Value} {below : List Frame} {meth : Method} {c : Code} {A : Nat → Prop} {post : Int32 → zH → Prop} (hG : xGG E G) (C : zCx p s m args meth c E G A 1 25 prog_5_method_5_code 4 cn_A) (hr : meth.sig.returnType = (some .boolean))  (l3 : Int32) (h : zH) (hw : b_A_append_22 post l3 h) : zGo p l e s m args below meth c E A 1 25 4 (zPi post) h 22 [some (.ref (E.2.2.1 5)), none, none, some (.int l3)] [] := by
  unfold b_A_append_22 at hw
  refine z_iload_n C (i := 3) d_A_append_22 rfl rfl ?_
  refine z_iconst C (v := (-1)) d_A_append_23 (by decide) ?_
  refine z_icmp_eq C (tgt := 32) d_A_append_24 (by decide) (fun q => ?_) (fun q => ?_)
  · replace hw := hw.1 q
    refine z_le (lv2 := [none, none, none, some (.int l3)]) (⟨rfl, trivial⟩) ?_
    exact w_A_append_32 hG C hr _ _ hw
  · replace hw := hw.2 q
    refine z_aload_n C (i := 0) d_A_append_27 rfl rfl ?_
    refine z_iload_n C (i := 3) d_A_append_28 rfl rfl ?_
    refine z_putI C (ci := 2) (j := 1) (F := cf_A) ct_A (by decide) rfl rfl in_A ty_A nm_A (by decide) fl_A_15 rfl (by decide +kernel) rfl d_A_append_29 (fun h1 eh1 => ?_)
    replace hw := hw h1 eh1
    refine z_le (lv2 := [none, none, none, some (.int l3)]) (⟨rfl, trivial⟩) ?_
    exact w_A_append_32 hG C hr _ _ hw
set_option maxRecDepth 100000 in
set_option maxHeartbeats 4000000 in
theorem t_A_append {l : Launch} {E : zE} {G : (Nat → Prop) → State → Prop} (hG : xGG E G) {l1 : Int32} {l2 : Int32} {h : zH} {post : Int32 → zH → Prop} (hw : wp_A_append l1 l2 h post) : Ct l xX E xcl xN zT G 1 25 y_A_append prog_5_method_5_code 4 (some .boolean) [.ref (E.2.2.1 5), .int l1, .int l2] h (zPi post) := by
  unfold wp_A_append at hw
  refine Ct.of (by decide) (Nat.le_of_ble_eq_true rfl) ?_
  intro p e s m below meth c A C hr
  refine z_lv (lv2 := [some (.ref (E.2.2.1 5)), some (.int l1), some (.int l2), none]) rfl ?_
  refine z_aload_n C (i := 0) d_A_append_0 rfl rfl ?_
  refine z_iload_n C (i := 1) d_A_append_1 rfl rfl ?_
  refine z_aload_n C (i := 0) d_A_append_2 rfl rfl ?_
  refine z_getI C (ci := 2) (j := 1) (F := cf_A) (by decide) rfl rfl in_A (by decide) fl_A_15 rfl d_A_append_3 ?_
  refine z_callVi ⟨xN_ok, hG.1⟩ zT_good C (t_A_appendWord hG hw) ol_A_36 (by decide) rfl rfl (by decide) (by decide) pl_A_appendWord rfl rfl (Nat.le_of_ble_eq_true rfl) d_A_append_6 (fun r2 h3 hw => ?_)
  refine z_istore_n C (i := 3) d_A_append_9 rfl (by decide) rfl ?_
  refine z_iload_n C (i := 3) d_A_append_10 rfl rfl ?_
  refine z_iconst C (v := (-1)) d_A_append_11 (by decide) ?_
  refine z_icmp_eq C (tgt := 22) d_A_append_12 (by decide) (fun q => ?_) (fun q => ?_)
  · replace hw := hw.1 q
    refine z_le (lv2 := [some (.ref (E.2.2.1 5)), none, none, some (.int r2)]) (⟨rfl, ⟨rfl, trivial⟩⟩) ?_
    exact w_A_append_22 hG C hr _ _ hw
  · replace hw := hw.2 q
    refine z_aload_n C (i := 0) d_A_append_15 rfl rfl ?_
    refine z_iload_n C (i := 2) d_A_append_16 rfl rfl ?_
    refine z_iload_n C (i := 3) d_A_append_17 rfl rfl ?_
    refine z_callVi ⟨xN_ok, hG.1⟩ zT_good C (t_A_appendWord hG hw) ol_A_36 (by decide) rfl rfl (by decide) (by decide) pl_A_appendWord rfl rfl (Nat.le_of_ble_eq_true rfl) d_A_append_18 (fun r4 h5 hw => ?_)
    refine z_istore_n C (i := 3) d_A_append_21 rfl (by decide) rfl ?_
    refine z_le (lv2 := [some (.ref (E.2.2.1 5)), none, none, some (.int r4)]) (⟨rfl, ⟨rfl, trivial⟩⟩) ?_
    exact w_A_append_22 hG C hr _ _ hw
theorem d_A_clear_0 : decode prog_5_method_2_code 0 = .ok (.aload_n 0, 1) := by decide +kernel
theorem d_A_clear_1 : decode prog_5_method_2_code 1 = .ok (.iconst 0, 1) := by decide +kernel
theorem d_A_clear_2 : decode prog_5_method_2_code 2 = .ok (.putfield 15, 3) := by decide +kernel
theorem d_A_clear_5 : decode prog_5_method_2_code 5 = .ok (.return_, 1) := by decide +kernel
def wp_A_clear (h : zH) (post : zH → Prop) : Prop := (∀ h1 : zH, h1 = zi h 5 1 0 → post h1)
set_option maxRecDepth 100000 in
set_option maxHeartbeats 4000000 in
theorem t_A_clear {l : Launch} {E : zE} {G : (Nat → Prop) → State → Prop} (hG : xGG E G) {h : zH} {post : zH → Prop} (hw : wp_A_clear  h post) : Ct l xX E xcl xN zT G 0 0 y_A_clear prog_5_method_2_code 1 none [.ref (E.2.2.1 5)] h (zPv post) := by
  unfold wp_A_clear at hw
  refine Ct.of (by decide) (Nat.le_of_ble_eq_true rfl) ?_
  intro p e s m below meth c A C hr
  refine z_lv (lv2 := [some (.ref (E.2.2.1 5))]) rfl ?_
  refine z_aload_n C (i := 0) d_A_clear_0 rfl rfl ?_
  refine z_iconst C (v := 0) d_A_clear_1 (by decide) ?_
  refine z_putI C (ci := 2) (j := 1) (F := cf_A) ct_A (by decide) rfl rfl in_A ty_A nm_A (by decide) fl_A_15 rfl (by decide +kernel) rfl d_A_clear_2 (fun h1 eh1 => ?_)
  replace hw := hw h1 eh1
  exact z_vret C hr d_A_clear_5 hw
theorem d_R_at_0 : decode prog_1_method_10_code 0 = .ok (.iload_n 1, 1) := by decide +kernel
theorem d_R_at_1 : decode prog_1_method_10_code 1 = .ok (.ifCond .lt (15), 3) := by decide +kernel
theorem d_R_at_4 : decode prog_1_method_10_code 4 = .ok (.iload_n 1, 1) := by decide +kernel
theorem d_R_at_5 : decode prog_1_method_10_code 5 = .ok (.aload_n 0, 1) := by decide +kernel
theorem d_R_at_6 : decode prog_1_method_10_code 6 = .ok (.arraylength, 1) := by decide +kernel
theorem d_R_at_7 : decode prog_1_method_10_code 7 = .ok (.if_icmp .ge (9), 3) := by decide +kernel
theorem d_R_at_10 : decode prog_1_method_10_code 10 = .ok (.aload_n 0, 1) := by decide +kernel
theorem d_R_at_11 : decode prog_1_method_10_code 11 = .ok (.iload_n 1, 1) := by decide +kernel
theorem d_R_at_12 : decode prog_1_method_10_code 12 = .ok (.iaload, 1) := by decide +kernel
theorem d_R_at_13 : decode prog_1_method_10_code 13 = .ok (.goto (4), 3) := by decide +kernel
theorem d_R_at_16 : decode prog_1_method_10_code 16 = .ok (.iconst 0, 1) := by decide +kernel
theorem d_R_at_17 : decode prog_1_method_10_code 17 = .ok (.ireturn, 1) := by decide +kernel
def b_R_at_17 (l0 : Nat) (l0n : Nat) (post : Int32 → zH → Prop) (s0 : Int32) (h : zH) : Prop := post s0 h
def b_R_at_16 (l0 : Nat) (l0n : Nat) (post : Int32 → zH → Prop) (h : zH) : Prop := b_R_at_17 l0 l0n post (0) h
def wp_R_at (l0 : Nat) (l0n : Nat) (l1 : Int32) (h : zH) (post : Int32 → zH → Prop) : Prop := xRow l0 l0n ∧ ((l1 < 0 → b_R_at_16 l0 l0n post  h) ∧ (¬ l1 < 0 → (((Int32.ofNat l0n) ≤ l1 → b_R_at_16 l0 l0n post  h) ∧ (¬ (Int32.ofNat l0n) ≤ l1 → (vp_in l1 l0n ∧ b_R_at_17 l0 l0n post ((h.1 l0 (l1 : Int32).toNatClampNeg)) h)))))
set_option maxRecDepth 100000 in
set_option maxHeartbeats 4000000 in
theorem w_R_at_17 {l0 : Nat} {l0n : Nat} {l : Launch} {E : zE} {G : (Nat → Prop) → State → Prop} {p : Program} {e : Env} {s : State} {m : MethodId} {args : Array Value} {below : List Frame} {meth : Method} {c : Code} {A : Nat → Prop} {post : Int32 → zH → Prop} (hG : xGG E G) (C : zCx p s m args meth c E G A 0 0 prog_1_method_10_code 2 cn_R) (hr : meth.sig.returnType = (some .int)) (hk_l0 : xRow l0 l0n)  (s0 : Int32) (h : zH) (hw : b_R_at_17 l0 l0n post s0 h) : zGo p l e s m args below meth c E A 0 0 2 (zPi post) h 17 [none, none] [.int s0] := by
  unfold b_R_at_17 at hw
  exact z_iret C hr d_R_at_17 hw
set_option maxRecDepth 100000 in
set_option maxHeartbeats 4000000 in
theorem w_R_at_16 {l0 : Nat} {l0n : Nat} {l : Launch} {E : zE} {G : (Nat → Prop) → State → Prop} {p : Program} {e : Env} {s : State} {m : MethodId} {args : Array Value} {below : List Frame} {meth : Method} {c : Code} {A : Nat → Prop} {post : Int32 → zH → Prop} (hG : xGG E G) (C : zCx p s m args meth c E G A 0 0 prog_1_method_10_code 2 cn_R) (hr : meth.sig.returnType = (some .int)) (hk_l0 : xRow l0 l0n)  (h : zH) (hw : b_R_at_16 l0 l0n post  h) : zGo p l e s m args below meth c E A 0 0 2 (zPi post) h 16 [none, none] [] := by
  unfold b_R_at_16 at hw
  refine z_iconst C (v := 0) d_R_at_16 (by decide) ?_
  refine z_le (lv2 := [none, none]) (trivial) ?_
  exact w_R_at_17 hG C hr hk_l0 _ _ hw
set_option maxRecDepth 100000 in
set_option maxHeartbeats 4000000 in
theorem t_R_at {l : Launch} {E : zE} {G : (Nat → Prop) → State → Prop} (hG : xGG E G) {l0 : Nat} {l0n : Nat} {l1 : Int32} {h : zH} {post : Int32 → zH → Prop} (hw : wp_R_at l0 l0n l1 h post) : Ct l xX E xcl xN zT G 0 0 y_R_at prog_1_method_10_code 2 (some .int) [.ref (E.2.2.1 l0), .int l1] h (zPi post) := by
  unfold wp_R_at at hw
  obtain ⟨hk_l0, hw⟩ := hw
  refine Ct.of (by decide) (Nat.le_of_ble_eq_true rfl) ?_
  intro p e s m below meth c A C hr
  refine z_lv (lv2 := [some (.ref (E.2.2.1 l0)), some (.int l1)]) rfl ?_
  refine z_iload_n C (i := 1) d_R_at_0 rfl rfl ?_
  refine z_if_lt C (tgt := 16) d_R_at_1 (by decide) (fun q => ?_) (fun q => ?_)
  · replace hw := hw.1 q
    refine z_le (lv2 := [none, none]) (trivial) ?_
    exact w_R_at_16 hG C hr hk_l0  _ hw
  · replace hw := hw.2 q
    refine z_iload_n C (i := 1) d_R_at_4 rfl rfl ?_
    refine z_aload_n C (i := 0) d_R_at_5 rfl rfl ?_
    refine z_alenI C hk_l0.1 hk_l0.2 rfl d_R_at_6 ?_
    refine z_icmp_ge C (tgt := 16) d_R_at_7 (by decide) (fun q => ?_) (fun q => ?_)
    · replace hw := hw.1 q
      refine z_le (lv2 := [none, none]) (trivial) ?_
      exact w_R_at_16 hG C hr hk_l0  _ hw
    · replace hw := hw.2 q
      refine z_aload_n C (i := 0) d_R_at_10 rfl rfl ?_
      refine z_iload_n C (i := 1) d_R_at_11 rfl rfl ?_
      refine z_iald C hk_l0.1 hk_l0.2 hw.1 d_R_at_12 ?_
      replace hw := hw.2
      refine z_goto C (tgt := 17) d_R_at_13 (by decide) ?_
      refine z_le (lv2 := [none, none]) (trivial) ?_
      exact w_R_at_17 hG C hr hk_l0 _ _ hw
theorem d_A_signAt_0 : decode prog_5_method_3_code 0 = .ok (.iload_n 1, 1) := by decide +kernel
theorem d_A_signAt_1 : decode prog_5_method_3_code 1 = .ok (.ifCond .lt (22), 3) := by decide +kernel
theorem d_A_signAt_4 : decode prog_5_method_3_code 4 = .ok (.iload_n 1, 1) := by decide +kernel
theorem d_A_signAt_5 : decode prog_5_method_3_code 5 = .ok (.aload_n 0, 1) := by decide +kernel
theorem d_A_signAt_6 : decode prog_5_method_3_code 6 = .ok (.getfield 15, 3) := by decide +kernel
theorem d_A_signAt_9 : decode prog_5_method_3_code 9 = .ok (.if_icmp .ge (14), 3) := by decide +kernel
theorem d_A_signAt_12 : decode prog_5_method_3_code 12 = .ok (.aload_n 0, 1) := by decide +kernel
theorem d_A_signAt_13 : decode prog_5_method_3_code 13 = .ok (.getfield 9, 3) := by decide +kernel
theorem d_A_signAt_16 : decode prog_5_method_3_code 16 = .ok (.iload_n 1, 1) := by decide +kernel
theorem d_A_signAt_17 : decode prog_5_method_3_code 17 = .ok (.invokestatic 19, 3) := by decide +kernel
theorem d_A_signAt_20 : decode prog_5_method_3_code 20 = .ok (.goto (4), 3) := by decide +kernel
theorem d_A_signAt_23 : decode prog_5_method_3_code 23 = .ok (.iconst (-1), 1) := by decide +kernel
theorem d_A_signAt_24 : decode prog_5_method_3_code 24 = .ok (.ireturn, 1) := by decide +kernel
def b_A_signAt_24 (post : Int32 → zH → Prop) (s0 : Int32) (h : zH) : Prop := post s0 h
def b_A_signAt_23 (post : Int32 → zH → Prop) (h : zH) : Prop := b_A_signAt_24 post ((-1)) h
def wp_A_signAt (l1 : Int32) (h : zH) (post : Int32 → zH → Prop) : Prop := ((l1 < 0 → b_A_signAt_23 post  h) ∧ (¬ l1 < 0 → (((h.1 5 1) ≤ l1 → b_A_signAt_23 post  h) ∧ (¬ (h.1 5 1) ≤ l1 → wp_R_at 6 400 (l1) h (fun (r1 : Int32) (h2 : zH) => b_A_signAt_24 post (r1) h2)))))
set_option maxRecDepth 100000 in
set_option maxHeartbeats 4000000 in
theorem w_A_signAt_24 {l : Launch} {E : zE} {G : (Nat → Prop) → State → Prop} {p : Program} {e : Env} {s : State} {m : MethodId} {args : Array Value} {below : List Frame} {meth : Method} {c : Code} {A : Nat → Prop} {post : Int32 → zH → Prop} (hG : xGG E G) (C : zCx p s m args meth c E G A 1 21 prog_5_method_3_code 2 cn_A) (hr : meth.sig.returnType = (some .int))  (s0 : Int32) (h : zH) (hw : b_A_signAt_24 post s0 h) : zGo p l e s m args below meth c E A 1 21 2 (zPi post) h 24 [none, none] [.int s0] := by
  unfold b_A_signAt_24 at hw
  exact z_iret C hr d_A_signAt_24 hw
set_option maxRecDepth 100000 in
set_option maxHeartbeats 4000000 in
theorem w_A_signAt_23 {l : Launch} {E : zE} {G : (Nat → Prop) → State → Prop} {p : Program} {e : Env} {s : State} {m : MethodId} {args : Array Value} {below : List Frame} {meth : Method} {c : Code} {A : Nat → Prop} {post : Int32 → zH → Prop} (hG : xGG E G) (C : zCx p s m args meth c E G A 1 21 prog_5_method_3_code 2 cn_A) (hr : meth.sig.returnType = (some .int))  (h : zH) (hw : b_A_signAt_23 post  h) : zGo p l e s m args below meth c E A 1 21 2 (zPi post) h 23 [none, none] [] := by
  unfold b_A_signAt_23 at hw
  refine z_iconst C (v := (-1)) d_A_signAt_23 (by decide) ?_
  refine z_le (lv2 := [none, none]) (trivial) ?_
  exact w_A_signAt_24 hG C hr _ _ hw
set_option maxRecDepth 100000 in
set_option maxHeartbeats 4000000 in
theorem t_A_signAt {l : Launch} {E : zE} {G : (Nat → Prop) → State → Prop} (hG : xGG E G) {l1 : Int32} {h : zH} {post : Int32 → zH → Prop} (hw : wp_A_signAt l1 h post) : Ct l xX E xcl xN zT G 1 21 y_A_signAt prog_5_method_3_code 2 (some .int) [.ref (E.2.2.1 5), .int l1] h (zPi post) := by
  unfold wp_A_signAt at hw
  refine Ct.of (by decide) (Nat.le_of_ble_eq_true rfl) ?_
  intro p e s m below meth c A C hr
  refine z_lv (lv2 := [some (.ref (E.2.2.1 5)), some (.int l1)]) rfl ?_
  refine z_iload_n C (i := 1) d_A_signAt_0 rfl rfl ?_
  refine z_if_lt C (tgt := 23) d_A_signAt_1 (by decide) (fun q => ?_) (fun q => ?_)
  · replace hw := hw.1 q
    refine z_le (lv2 := [none, none]) (trivial) ?_
    exact w_A_signAt_23 hG C hr  _ hw
  · replace hw := hw.2 q
    refine z_iload_n C (i := 1) d_A_signAt_4 rfl rfl ?_
    refine z_aload_n C (i := 0) d_A_signAt_5 rfl rfl ?_
    refine z_getI C (ci := 2) (j := 1) (F := cf_A) (by decide) rfl rfl in_A (by decide) fl_A_15 rfl d_A_signAt_6 ?_
    refine z_icmp_ge C (tgt := 23) d_A_signAt_9 (by decide) (fun q => ?_) (fun q => ?_)
    · replace hw := hw.1 q
      refine z_le (lv2 := [none, none]) (trivial) ?_
      exact w_A_signAt_23 hG C hr  _ hw
    · replace hw := hw.2 q
      refine z_aload_n C (i := 0) d_A_signAt_12 rfl rfl ?_
      refine z_getS C (ci := 2) (j := 0) (F := cf_A) (by decide) rfl rfl in_A (by decide) fl_A_9 rfl d_A_signAt_13 ?_
      refine z_iload_n C (i := 1) d_A_signAt_16 rfl rfl ?_
      refine z_callSNi ⟨xN_ok, hG.1⟩ zT_good C (t_R_at hG hw) wn_R_at nl_A_19 (by decide) (by decide) pl_R_at rfl rfl (Nat.le_of_ble_eq_true rfl) d_A_signAt_17 (fun r1 h2 hw => ?_)
      refine z_goto C (tgt := 24) d_A_signAt_20 (by decide) ?_
      refine z_le (lv2 := [none, none]) (trivial) ?_
      exact w_A_signAt_24 hG C hr _ _ hw
end
section
theorem d_len_0 : decode prog_15_method_54_code 0 = .ok (.aload_n 0, 1) := by decide +kernel
theorem d_len_1 : decode prog_15_method_54_code 1 = .ok (.getfield 9, 3) := by decide +kernel
theorem d_len_4 : decode prog_15_method_54_code 4 = .ok (.arraylength, 1) := by decide +kernel
theorem d_len_5 : decode prog_15_method_54_code 5 = .ok (.aload_n 0, 1) := by decide +kernel
theorem d_len_6 : decode prog_15_method_54_code 6 = .ok (.invokevirtual 335, 3) := by decide +kernel
theorem d_len_9 : decode prog_15_method_54_code 9 = .ok (.ishr, 1) := by decide +kernel
theorem d_len_10 : decode prog_15_method_54_code 10 = .ok (.ireturn, 1) := by decide +kernel
theorem d_cod_0 : decode prog_15_method_152_code 0 = .ok (.getstatic 38, 3) := by decide +kernel
theorem d_cod_3 : decode prog_15_method_152_code 3 = .ok (.ifCond .eq 10, 3) := by decide +kernel
theorem d_cod_6 : decode prog_15_method_152_code 6 = .ok (.aload_n 0, 1) := by decide +kernel
theorem d_cod_7 : decode prog_15_method_152_code 7 = .ok (.getfield 15, 3) := by decide +kernel
theorem d_cod_10 : decode prog_15_method_152_code 10 = .ok (.goto 4, 3) := by decide +kernel
theorem d_cod_14 : decode prog_15_method_152_code 14 = .ok (.ireturn, 1) := by decide +kernel
theorem d_cha_0 : decode prog_15_method_56_code 0 = .ok (.aload_n 0, 1) := by decide +kernel
theorem d_cha_1 : decode prog_15_method_56_code 1 = .ok (.invokevirtual 492, 3) := by decide +kernel
theorem d_cha_4 : decode prog_15_method_56_code 4 = .ok (.ifCond .eq 12, 3) := by decide +kernel
theorem d_cha_7 : decode prog_15_method_56_code 7 = .ok (.aload_n 0, 1) := by decide +kernel
theorem d_cha_8 : decode prog_15_method_56_code 8 = .ok (.getfield 9, 3) := by decide +kernel
theorem d_cha_11 : decode prog_15_method_56_code 11 = .ok (.iload_n 1, 1) := by decide +kernel
theorem d_cha_12 : decode prog_15_method_56_code 12 = .ok (.invokestatic 495, 3) := by decide +kernel
theorem d_cha_15 : decode prog_15_method_56_code 15 = .ok (.ireturn, 1) := by decide +kernel
theorem d_lat_0 : decode prog_15_method_154_code 0 = .ok (.getstatic 38, 3) := by decide +kernel
theorem d_lat_3 : decode prog_15_method_154_code 3 = .ok (.ifCond .eq 14, 3) := by decide +kernel
theorem d_lat_6 : decode prog_15_method_154_code 6 = .ok (.aload_n 0, 1) := by decide +kernel
theorem d_lat_7 : decode prog_15_method_154_code 7 = .ok (.getfield 15, 3) := by decide +kernel
theorem d_lat_10 : decode prog_15_method_154_code 10 = .ok (.ifCond .ne 7, 3) := by decide +kernel
theorem d_lat_13 : decode prog_15_method_154_code 13 = .ok (.iconst 1, 1) := by decide +kernel
theorem d_lat_14 : decode prog_15_method_154_code 14 = .ok (.goto 4, 3) := by decide +kernel
theorem d_lat_18 : decode prog_15_method_154_code 18 = .ok (.ireturn, 1) := by decide +kernel
theorem d_lch_0 : decode prog_16_method_2_code 0 = .ok (.iload_n 1, 1) := by decide +kernel
theorem d_lch_1 : decode prog_16_method_2_code 1 = .ok (.aload_n 0, 1) := by decide +kernel
theorem d_lch_2 : decode prog_16_method_2_code 2 = .ok (.arraylength, 1) := by decide +kernel
theorem d_lch_3 : decode prog_16_method_2_code 3 = .ok (.invokestatic 9, 3) := by decide +kernel
theorem d_lch_6 : decode prog_16_method_2_code 6 = .ok (.aload_n 0, 1) := by decide +kernel
theorem d_lch_7 : decode prog_16_method_2_code 7 = .ok (.iload_n 1, 1) := by decide +kernel
theorem d_lch_8 : decode prog_16_method_2_code 8 = .ok (.baload, 1) := by decide +kernel
theorem d_lch_9 : decode prog_16_method_2_code 9 = .ok (.sipush 255, 3) := by decide +kernel
theorem d_lch_12 : decode prog_16_method_2_code 12 = .ok (.iand, 1) := by decide +kernel
theorem d_lch_13 : decode prog_16_method_2_code 13 = .ok (.i2c, 1) := by decide +kernel
theorem d_lch_14 : decode prog_16_method_2_code 14 = .ok (.ireturn, 1) := by decide +kernel
theorem d_chk_0 : decode prog_15_method_155_code 0 = .ok (.iload_n 0, 1) := by decide +kernel
theorem d_chk_1 : decode prog_15_method_155_code 1 = .ok (.iload_n 1, 1) := by decide +kernel
theorem d_chk_2 : decode prog_15_method_155_code 2 = .ok (.getstatic 1053, 3) := by decide +kernel
theorem d_chk_5 : decode prog_15_method_155_code 5 = .ok (.invokestatic 1059, 3) := by decide +kernel
theorem d_chk_8 : decode prog_15_method_155_code 8 = .ok (.pop, 1) := by decide +kernel
theorem d_chk_9 : decode prog_15_method_155_code 9 = .ok (.return_, 1) := by decide +kernel
theorem d_pre_0 : decode prog_19_method_11_code 0 = .ok (.iload_n 0, 1) := by decide +kernel
theorem d_pre_1 : decode prog_19_method_11_code 1 = .ok (.ifCond .lt 8, 3) := by decide +kernel
theorem d_pre_4 : decode prog_19_method_11_code 4 = .ok (.iload_n 0, 1) := by decide +kernel
theorem d_pre_5 : decode prog_19_method_11_code 5 = .ok (.iload_n 1, 1) := by decide +kernel
theorem d_pre_6 : decode prog_19_method_11_code 6 = .ok (.if_icmp .lt 10, 3) := by decide +kernel
theorem d_pre_16 : decode prog_19_method_11_code 16 = .ok (.iload_n 0, 1) := by decide +kernel
theorem d_pre_17 : decode prog_19_method_11_code 17 = .ok (.ireturn, 1) := by decide +kernel
theorem d_A_spells_0 : decode prog_5_method_4_code 0 = .ok (.iconst 0, 1) := by decide +kernel
theorem d_A_spells_1 : decode prog_5_method_4_code 1 = .ok (.istore_n 3, 1) := by decide +kernel
theorem d_A_spells_2 : decode prog_5_method_4_code 2 = .ok (.iload_n 3, 1) := by decide +kernel
theorem d_A_spells_3 : decode prog_5_method_4_code 3 = .ok (.aload_n 2, 1) := by decide +kernel
theorem d_A_spells_4 : decode prog_5_method_4_code 4 = .ok (.invokevirtual 23, 3) := by decide +kernel
theorem d_A_spells_7 : decode prog_5_method_4_code 7 = .ok (.if_icmp .ge 26, 3) := by decide +kernel
theorem d_A_spells_10 : decode prog_5_method_4_code 10 = .ok (.aload_n 0, 1) := by decide +kernel
theorem d_A_spells_11 : decode prog_5_method_4_code 11 = .ok (.iload_n 1, 1) := by decide +kernel
theorem d_A_spells_12 : decode prog_5_method_4_code 12 = .ok (.iload_n 3, 1) := by decide +kernel
theorem d_A_spells_13 : decode prog_5_method_4_code 13 = .ok (.iadd, 1) := by decide +kernel
theorem d_A_spells_14 : decode prog_5_method_4_code 14 = .ok (.invokevirtual 28, 3) := by decide +kernel
theorem d_A_spells_17 : decode prog_5_method_4_code 17 = .ok (.aload_n 2, 1) := by decide +kernel
theorem d_A_spells_18 : decode prog_5_method_4_code 18 = .ok (.iload_n 3, 1) := by decide +kernel
theorem d_A_spells_19 : decode prog_5_method_4_code 19 = .ok (.invokevirtual 32, 3) := by decide +kernel
theorem d_A_spells_22 : decode prog_5_method_4_code 22 = .ok (.if_icmp .eq 5, 3) := by decide +kernel
theorem d_A_spells_25 : decode prog_5_method_4_code 25 = .ok (.iconst 0, 1) := by decide +kernel
theorem d_A_spells_26 : decode prog_5_method_4_code 26 = .ok (.ireturn, 1) := by decide +kernel
theorem d_A_spells_27 : decode prog_5_method_4_code 27 = .ok (.iinc 3 1, 3) := by decide +kernel
theorem d_A_spells_30 : decode prog_5_method_4_code 30 = .ok (.goto (-28), 3) := by decide +kernel
theorem d_A_spells_33 : decode prog_5_method_4_code 33 = .ok (.iconst 1, 1) := by decide +kernel
theorem d_A_spells_34 : decode prog_5_method_4_code 34 = .ok (.ireturn, 1) := by decide +kernel
def y_sLen : MethodName := ⟨"java/lang/String", "length", "()I"⟩
theorem pl_sLen : y_sLen.cls ≠ "java/lang/invoke/MethodHandle" ∧ y_sLen.cls ≠ "java/lang/invoke/VarHandle" ∧ (parseMethodDescriptor y_sLen.desc).map (fun d => d.parameters.length) = some 0 := by decide +kernel
def y_sCod : MethodName := ⟨"java/lang/String", "coder", "()B"⟩
theorem pl_sCod : y_sCod.cls ≠ "java/lang/invoke/MethodHandle" ∧ y_sCod.cls ≠ "java/lang/invoke/VarHandle" ∧ (parseMethodDescriptor y_sCod.desc).map (fun d => d.parameters.length) = some 0 := by decide +kernel
def y_sCha : MethodName := ⟨"java/lang/String", "charAt", "(I)C"⟩
theorem pl_sCha : y_sCha.cls ≠ "java/lang/invoke/MethodHandle" ∧ y_sCha.cls ≠ "java/lang/invoke/VarHandle" ∧ (parseMethodDescriptor y_sCha.desc).map (fun d => d.parameters.length) = some 1 := by decide +kernel
def y_sLat : MethodName := ⟨"java/lang/String", "isLatin1", "()Z"⟩
theorem pl_sLat : y_sLat.cls ≠ "java/lang/invoke/MethodHandle" ∧ y_sLat.cls ≠ "java/lang/invoke/VarHandle" ∧ (parseMethodDescriptor y_sLat.desc).map (fun d => d.parameters.length) = some 0 := by decide +kernel
def y_sLch : MethodName := ⟨"java/lang/StringLatin1", "charAt", "([BI)C"⟩
theorem pl_sLch : y_sLch.cls ≠ "java/lang/invoke/MethodHandle" ∧ y_sLch.cls ≠ "java/lang/invoke/VarHandle" ∧ (parseMethodDescriptor y_sLch.desc).map (fun d => d.parameters.length) = some 2 := by decide +kernel
def y_sChk : MethodName := ⟨"java/lang/String", "checkIndex", "(II)V"⟩
theorem pl_sChk : y_sChk.cls ≠ "java/lang/invoke/MethodHandle" ∧ y_sChk.cls ≠ "java/lang/invoke/VarHandle" ∧ (parseMethodDescriptor y_sChk.desc).map (fun d => d.parameters.length) = some 2 := by decide +kernel
def y_sPre : MethodName := ⟨"jdk/internal/util/Preconditions", "checkIndex", "(IILjava/util/function/BiFunction;)I"⟩
theorem pl_sPre : y_sPre.cls ≠ "java/lang/invoke/MethodHandle" ∧ y_sPre.cls ≠ "java/lang/invoke/VarHandle" ∧ (parseMethodDescriptor y_sPre.desc).map (fun d => d.parameters.length) = some 3 := by decide +kernel
theorem js_cod : ∀ w ∈ zwV "java/lang/String" 335 y_sCod prog_15_method_152_code 1 (some .byte), w ∈ zT := List.forall_mem_cons.mpr ⟨jw_331, List.forall_mem_cons.mpr ⟨jw_332, List.forall_mem_cons.mpr ⟨jw_333, List.forall_mem_cons.mpr ⟨jw_iS, List.forall_mem_cons.mpr ⟨jw_334, fun _ h => absurd h List.not_mem_nil⟩⟩⟩⟩⟩
theorem js_lat : ∀ w ∈ zwV "java/lang/String" 492 y_sLat prog_15_method_154_code 1 (some .boolean), w ∈ zT := List.forall_mem_cons.mpr ⟨jw_342, List.forall_mem_cons.mpr ⟨jw_343, List.forall_mem_cons.mpr ⟨jw_344, List.forall_mem_cons.mpr ⟨jw_iS, List.forall_mem_cons.mpr ⟨jw_345, fun _ h => absurd h List.not_mem_nil⟩⟩⟩⟩⟩
theorem js_lch : ∀ w ∈ zwS "java/lang/String" 495 y_sLch prog_16_method_2_code 2 (some .char), w ∈ zT := List.forall_mem_cons.mpr ⟨jw_346, List.forall_mem_cons.mpr ⟨jw_347, List.forall_mem_cons.mpr ⟨jw_iL, List.forall_mem_cons.mpr ⟨jw_348, fun _ h => absurd h List.not_mem_nil⟩⟩⟩⟩
theorem js_chk : ∀ w ∈ zwS "java/lang/StringLatin1" 9 y_sChk prog_15_method_155_code 2 none, w ∈ zT := List.forall_mem_cons.mpr ⟨jw_349, List.forall_mem_cons.mpr ⟨jw_350, List.forall_mem_cons.mpr ⟨jw_iS, List.forall_mem_cons.mpr ⟨jw_351, fun _ h => absurd h List.not_mem_nil⟩⟩⟩⟩
theorem js_pre : ∀ w ∈ zwS "java/lang/String" 1059 y_sPre prog_19_method_11_code 3 (some .int), w ∈ zT := List.forall_mem_cons.mpr ⟨jw_354, List.forall_mem_cons.mpr ⟨jw_355, List.forall_mem_cons.mpr ⟨jw_iP, List.forall_mem_cons.mpr ⟨jw_356, fun _ h => absurd h List.not_mem_nil⟩⟩⟩⟩
theorem js_len : ∀ w ∈ zwV "RangeReckoner$Tape" 23 y_sLen prog_15_method_54_code 1 (some .int), w ∈ zT := List.forall_mem_cons.mpr ⟨jw_327, List.forall_mem_cons.mpr ⟨jw_328, List.forall_mem_cons.mpr ⟨jw_329, List.forall_mem_cons.mpr ⟨jw_iS, List.forall_mem_cons.mpr ⟨jw_330, fun _ h => absurd h List.not_mem_nil⟩⟩⟩⟩⟩
theorem js_cha : ∀ w ∈ zwV "RangeReckoner$Tape" 32 y_sCha prog_15_method_56_code 2 (some .char), w ∈ zT := List.forall_mem_cons.mpr ⟨jw_338, List.forall_mem_cons.mpr ⟨jw_339, List.forall_mem_cons.mpr ⟨jw_340, List.forall_mem_cons.mpr ⟨jw_iS, List.forall_mem_cons.mpr ⟨jw_341, fun _ h => absurd h List.not_mem_nil⟩⟩⟩⟩⟩
set_option maxRecDepth 100000 in
set_option maxHeartbeats 4000000 in
theorem s_cod {l : Launch} {E : zE} {G : (Nat → Prop) → State → Prop} (hG : xGG E G) {i : Nat} (hi : i < 4) {h : zH} {post : Int32 → zH → Prop} (hw : post 0 h) : Ct l xX E xcl xN zT G 0 0 y_sCod prog_15_method_152_code 1 (some .byte) [.ref (E.2.2.2.1 i)] h (zPi post) := by
  refine Ct.of (by decide) (Nat.le_of_ble_eq_true rfl) ?_
  intro p e s m below meth c A C hr
  have hs := hG.2 A s C.2.2.2.2.2.2
  obtain ⟨hO, hC, hV, hT⟩ := hs.1.1 i hi
  refine z_lv (lv2 := [some (.ref (E.2.2.2.1 i))]) rfl ?_
  refine z_gets C hs.2.2.2.2.2.1 jw_335 d_cod_0 ?_
  refine z_if_eq C (tgt := 13) d_cod_3 (by decide) (fun q => absurd q (by decide)) (fun _ => ?_)
  refine z_aload_n C (i := 0) d_cod_6 rfl rfl ?_
  refine z_getc C hC jw_976 d_cod_7 ?_
  refine z_goto C (tgt := 14) d_cod_10 (by decide) ?_
  exact z_zret C hr rfl d_cod_14 hw
set_option maxRecDepth 100000 in
set_option maxHeartbeats 4000000 in
theorem s_lat {l : Launch} {E : zE} {G : (Nat → Prop) → State → Prop} (hG : xGG E G) {i : Nat} (hi : i < 4) {h : zH} {post : Int32 → zH → Prop} (hw : post 1 h) : Ct l xX E xcl xN zT G 0 0 y_sLat prog_15_method_154_code 1 (some .boolean) [.ref (E.2.2.2.1 i)] h (zPi post) := by
  refine Ct.of (by decide) (Nat.le_of_ble_eq_true rfl) ?_
  intro p e s m below meth c A C hr
  have hs := hG.2 A s C.2.2.2.2.2.2
  obtain ⟨hO, hC, hV, hT⟩ := hs.1.1 i hi
  refine z_lv (lv2 := [some (.ref (E.2.2.2.1 i))]) rfl ?_
  refine z_gets C hs.2.2.2.2.2.1 jw_335 d_lat_0 ?_
  refine z_if_eq C (tgt := 17) d_lat_3 (by decide) (fun q => absurd q (by decide)) (fun _ => ?_)
  refine z_aload_n C (i := 0) d_lat_6 rfl rfl ?_
  refine z_getc C hC jw_976 d_lat_7 ?_
  refine z_if_ne C (tgt := 17) d_lat_10 (by decide) (fun q => absurd rfl q) (fun _ => ?_)
  refine z_iconst C (v := 1) d_lat_13 (by decide) ?_
  refine z_goto C (tgt := 18) d_lat_14 (by decide) ?_
  exact z_zret C hr rfl d_lat_18 hw
set_option maxRecDepth 100000 in
set_option maxHeartbeats 4000000 in
theorem s_len {l : Launch} {E : zE} {G : (Nat → Prop) → State → Prop} (hG : xGG E G) {i : Nat} (hi : i < 4) {h : zH} {post : Int32 → zH → Prop} (hw : post (Int32.ofNat (xSlen.getD i 0) >>> ((0 : Int32) &&& 31)) h) : Ct l xX E xcl xN zT G 1 20 y_sLen prog_15_method_54_code 1 (some .int) [.ref (E.2.2.2.1 i)] h (zPi post) := by
  refine Ct.of (by decide) (Nat.le_of_ble_eq_true rfl) ?_
  intro p e s m below meth c A C hr
  have hs := hG.2 A s C.2.2.2.2.2.2
  obtain ⟨hO, hC, hV, hT⟩ := hs.1.1 i hi
  refine z_lv (lv2 := [some (.ref (E.2.2.2.1 i))]) rfl ?_
  refine z_aload_n C (i := 0) d_len_0 rfl rfl ?_
  refine z_getc C hV jw_975 d_len_1 ?_
  refine z_tlen C hT d_len_4 ?_
  refine z_aload_n C (i := 0) d_len_5 rfl rfl ?_
  refine z_callRi ⟨xN_ok, hG.1⟩ zT_good C (s_cod hG hi (post := fun v h2 => v = 0 ∧ h2 = h) ⟨rfl, rfl⟩) js_cod (fun H locs hS => vk_recv hs.1 hi hS) (by decide) (by decide) pl_sCod rfl rfl (Nat.le_of_ble_eq_true rfl) d_len_6 (fun v h2 hq => ?_)
  obtain ⟨rfl, rfl⟩ := hq
  refine z_ishr C d_len_9 ?_
  exact z_iret C hr d_len_10 hw
set_option maxRecDepth 100000 in
set_option maxHeartbeats 4000000 in
theorem s_preN {l : Launch} {E : zE} {G : (Nat → Prop) → State → Prop} (hG : xGG E G) {a n : Int32} (h0 : ¬ a < 0) (h1 : a < n) {h : zH} {post : Int32 → zH → Prop} (hw : post a h) : Ct l xX E xcl xN zT G 0 0 y_sPre prog_19_method_11_code 3 (some .int) [.int a, .int n, .null] h (zPi post) := by
  refine Ct.of (by decide) (Nat.le_of_ble_eq_true rfl) ?_
  intro p e s m below meth c A C hr
  have hs := hG.2 A s C.2.2.2.2.2.2
  refine z_lv (lv2 := [some (.int a), some (.int n), some (.null)]) rfl ?_
  refine z_iload_n C (i := 0) d_pre_0 rfl rfl ?_
  refine z_if_lt C (tgt := 9) d_pre_1 (by decide) (fun q => absurd q h0) (fun _ => ?_)
  refine z_iload_n C (i := 0) d_pre_4 rfl rfl ?_
  refine z_iload_n C (i := 1) d_pre_5 rfl rfl ?_
  refine z_icmp_lt C (tgt := 16) d_pre_6 (by decide) (fun _ => ?_) (fun q => absurd h1 q)
  refine z_iload_n C (i := 0) d_pre_16 rfl rfl ?_
  exact z_iret C hr d_pre_17 hw
set_option maxRecDepth 100000 in
set_option maxHeartbeats 4000000 in
theorem s_preR {l : Launch} {E : zE} {G : (Nat → Prop) → State → Prop} (hG : xGG E G) {t : Nat} {a n : Int32} (h0 : ¬ a < 0) (h1 : a < n) {h : zH} {post : Int32 → zH → Prop} (hw : post a h) : Ct l xX E xcl xN zT G 0 0 y_sPre prog_19_method_11_code 3 (some .int) [.int a, .int n, .ref t] h (zPi post) := by
  refine Ct.of (by decide) (Nat.le_of_ble_eq_true rfl) ?_
  intro p e s m below meth c A C hr
  have hs := hG.2 A s C.2.2.2.2.2.2
  refine z_lv (lv2 := [some (.int a), some (.int n), some (.ref t)]) rfl ?_
  refine z_iload_n C (i := 0) d_pre_0 rfl rfl ?_
  refine z_if_lt C (tgt := 9) d_pre_1 (by decide) (fun q => absurd q h0) (fun _ => ?_)
  refine z_iload_n C (i := 0) d_pre_4 rfl rfl ?_
  refine z_iload_n C (i := 1) d_pre_5 rfl rfl ?_
  refine z_icmp_lt C (tgt := 16) d_pre_6 (by decide) (fun _ => ?_) (fun q => absurd h1 q)
  refine z_iload_n C (i := 0) d_pre_16 rfl rfl ?_
  exact z_iret C hr d_pre_17 hw
set_option maxRecDepth 100000 in
set_option maxHeartbeats 4000000 in
theorem s_chk {l : Launch} {E : zE} {G : (Nat → Prop) → State → Prop} (hG : xGG E G) {a n : Int32} (h0 : ¬ a < 0) (h1 : a < n) {h : zH} {post : zH → Prop} (hw : post h) : Ct l xX E xcl xN zT G 1 22 y_sChk prog_15_method_155_code 2 none [.int a, .int n] h (zPv post) := by
  refine Ct.of (by decide) (Nat.le_of_ble_eq_true rfl) ?_
  intro p e s m below meth c A C hr
  have hs := hG.2 A s C.2.2.2.2.2.2
  refine z_lv (lv2 := [some (.int a), some (.int n)]) rfl ?_
  refine z_iload_n C (i := 0) d_chk_0 rfl rfl ?_
  refine z_iload_n C (i := 1) d_chk_1 rfl rfl ?_
  rcases hs.2.2.2.2.2.2 with hz | ⟨t, hz⟩
  · refine z_gets C hz jw_352 d_chk_2 ?_
    refine z_callSi ⟨xN_ok, hG.1⟩ zT_good C (s_preN hG h0 h1 (post := fun v h2 => h2 = h) rfl) js_pre (by decide) (by decide) pl_sPre rfl rfl (Nat.le_of_ble_eq_true rfl) d_chk_5 (fun v h2 hq => ?_)
    subst hq
    refine z_pop C d_chk_8 rfl ?_
    exact z_vret C hr d_chk_9 hw
  · refine z_gets C hz jw_352 d_chk_2 ?_
    refine z_callSi ⟨xN_ok, hG.1⟩ zT_good C (s_preR hG h0 h1 (post := fun v h2 => h2 = h) rfl) js_pre (by decide) (by decide) pl_sPre rfl rfl (Nat.le_of_ble_eq_true rfl) d_chk_5 (fun v h2 hq => ?_)
    subst hq
    refine z_pop C d_chk_8 rfl ?_
    exact z_vret C hr d_chk_9 hw
/-- a text's sign -/
def fChar (i k : Nat) : Int32 := ((((xSbyt.getD i []).getD k 0) &&& 255).toUInt32 % 65536).toInt32
theorem zlt_ofNat {k n : Nat} (h : k < n) (hn : n < 2 ^ 31) : ¬ nI k < 0 ∧ nI k < Int32.ofNat n ∧ vp_in (nI k) n ∧ (nI k).toNatClampNeg = k := ⟨nI_pos (by omega), nI_lt h hn, vp_in_nI h hn, nI_clamp (by omega)⟩
set_option maxRecDepth 100000 in
set_option maxHeartbeats 4000000 in
theorem s_lch {l : Launch} {E : zE} {G : (Nat → Prop) → State → Prop} (hG : xGG E G) {i k : Nat} (hi : i < 4) (hk : k < xSlen.getD i 0) (hn : xSlen.getD i 0 < 2 ^ 31) {h : zH} {post : Int32 → zH → Prop} (hw : post (fChar i k) h) : Ct l xX E xcl xN zT G 2 43 y_sLch prog_16_method_2_code 2 (some .char) [.ref (E.2.2.2.2 i), .int (nI k)] h (zPi post) := by
  obtain ⟨a1, a2, a3, a4⟩ := zlt_ofNat hk hn
  refine Ct.of (by decide) (Nat.le_of_ble_eq_true rfl) ?_
  intro p e s m below meth c A C hr
  have hs := hG.2 A s C.2.2.2.2.2.2
  obtain ⟨hO, hC, hV, hT⟩ := hs.1.1 i hi
  refine z_lv (lv2 := [some (.ref (E.2.2.2.2 i)), some (.int (nI k))]) rfl ?_
  refine z_iload_n C (i := 1) d_lch_0 rfl rfl ?_
  refine z_aload_n C (i := 0) d_lch_1 rfl rfl ?_
  refine z_tlen C hT d_lch_2 ?_
  refine z_callSv ⟨xN_ok, hG.1⟩ zT_good C (s_chk hG a1 a2 (post := fun h2 => h2 = h) rfl) js_chk (by decide) (by decide) pl_sChk rfl rfl (Nat.le_of_ble_eq_true rfl) d_lch_3 (fun h2 hq => ?_)
  subst hq
  refine z_aload_n C (i := 0) d_lch_6 rfl rfl ?_
  refine z_iload_n C (i := 1) d_lch_7 rfl rfl ?_
  refine z_tb C (v := .int ((xSbyt.getD i []).getD k 0)) hT a3 (by rw [a4]) d_lch_8 ?_
  refine z_sipush C (v := 255) d_lch_9 (by decide) ?_
  refine z_iand C d_lch_12 ?_
  refine z_i2c C d_lch_13 ?_
  exact z_zret C hr (pk_nc _) d_lch_14 hw
set_option maxRecDepth 100000 in
set_option maxHeartbeats 4000000 in
theorem s_cha {l : Launch} {E : zE} {G : (Nat → Prop) → State → Prop} (hG : xGG E G) {i k : Nat} (hi : i < 4) (hk : k < xSlen.getD i 0) (hn : xSlen.getD i 0 < 2 ^ 31) {h : zH} {post : Int32 → zH → Prop} (hw : post (fChar i k) h) : Ct l xX E xcl xN zT G 3 64 y_sCha prog_15_method_56_code 2 (some .char) [.ref (E.2.2.2.1 i), .int (nI k)] h (zPi post) := by
  refine Ct.of (by decide) (Nat.le_of_ble_eq_true rfl) ?_
  intro p e s m below meth c A C hr
  have hs := hG.2 A s C.2.2.2.2.2.2
  obtain ⟨hO, hC, hV, hT⟩ := hs.1.1 i hi
  refine z_lv (lv2 := [some (.ref (E.2.2.2.1 i)), some (.int (nI k))]) rfl ?_
  refine z_aload_n C (i := 0) d_cha_0 rfl rfl ?_
  refine z_callRi ⟨xN_ok, hG.1⟩ zT_good C (s_lat hG hi (post := fun v h2 => v = 1 ∧ h2 = h) ⟨rfl, rfl⟩) js_lat (fun H locs hS => vk_recv hs.1 hi hS) (by decide) (by decide) pl_sLat rfl rfl (Nat.le_of_ble_eq_true rfl) d_cha_1 (fun v h2 hq => ?_)
  obtain ⟨rfl, rfl⟩ := hq
  refine z_if_eq C (tgt := 16) d_cha_4 (by decide) (fun q => absurd q (by decide)) (fun _ => ?_)
  refine z_aload_n C (i := 0) d_cha_7 rfl rfl ?_
  refine z_getc C hV jw_975 d_cha_8 ?_
  refine z_iload_n C (i := 1) d_cha_11 rfl rfl ?_
  refine z_callSi ⟨xN_ok, hG.1⟩ zT_good C (s_lch hG hi hk hn (post := fun v h3 => v = fChar i k ∧ h3 = h2) ⟨rfl, rfl⟩) js_lch (by decide) (by decide) pl_sLch rfl rfl (Nat.le_of_ble_eq_true rfl) d_cha_12 (fun v h3 hq => ?_)
  obtain ⟨rfl, rfl⟩ := hq
  exact z_zret C hr (pk_nc _) d_cha_15 hw
/-- RangeReckoner.at, Tape.signAt -/
def fAt (f : Nat → Int32) (n : Nat) (i : Int32) : Int32 := if i < 0 then 0 else if Int32.ofNat n ≤ i then 0 else f i.toNatClampNeg
def fSign (h : zH) (i : Int32) : Int32 := if i < 0 then -1 else if h.1 5 1 ≤ i then -1 else fAt (h.1 6) 400 i
theorem in_of {i : Int32} {n : Nat} (hn : n < 2 ^ 31) (h0 : ¬ i < 0) (h1 : ¬ Int32.ofNat n ≤ i) : vp_in i n := by
  obtain ⟨j, hj, rfl, -⟩ := pk_mu (L := n) h0 h1 hn
  exact vp_in_nI hj hn
theorem sp_R_at {k n : Nat} {i : Int32} {h : zH} {post : Int32 → zH → Prop} (hr : xRow k n) (hn : n < 2 ^ 31) (hp : post (fAt (h.1 k) n i) h) : wp_R_at k n i h post := by
  unfold wp_R_at b_R_at_16 b_R_at_17
  unfold fAt at hp
  refine ⟨hr, fun q => ?_, fun q => ⟨fun q2 => ?_, fun q2 => ⟨in_of hn q q2, ?_⟩⟩⟩
  · rwa [if_pos q] at hp
  · rwa [if_neg q, if_pos q2] at hp
  · rwa [if_neg q, if_neg q2] at hp
theorem xRow_c (k n : Nat) (h1 : k < 60 := by decide) (h2 : xX.2.1 k = (1, n) := by rfl) : xRow k n := ⟨h1, h2⟩
theorem sp_A_signAt {i : Int32} {h : zH} {post : Int32 → zH → Prop} (hp : post (fSign h i) h) : wp_A_signAt i h post := by
  unfold wp_A_signAt b_A_signAt_23 b_A_signAt_24
  unfold fSign at hp
  refine ⟨fun q => ?_, fun q => ⟨fun q2 => ?_, fun q2 => sp_R_at (xRow_c 6 400) (by decide) ?_⟩⟩
  · rwa [if_pos q] at hp
  · rwa [if_neg q, if_pos q2] at hp
  · rwa [if_neg q, if_neg q2] at hp
def fSpells (h : zH) (l1 : Int32) : List Int32 → Int32 → Int32
  | [], _ => 1
  | b :: t, j => if fSign h (l1 + j) = b then fSpells h l1 t (j + 1) else 0
def wp_A_spells (l1 : Int32) (i : Nat) (h : zH) (post : Int32 → zH → Prop) : Prop := i < 3 ∧ post (fSpells h l1 (xSbyt.getD i []) 0) h
theorem xSp : ∀ i, i < 3 → xSlen.getD i 0 = 3 ∧ (xSbyt.getD i []).length = 3 ∧ ∀ k, k < 3 → fChar i k = (xSbyt.getD i []).getD k 0 := by decide +kernel
set_option maxRecDepth 100000 in
set_option maxHeartbeats 4000000 in
theorem w_A_spells {l : Launch} {E : zE} {G : (Nat → Prop) → State → Prop} (hG : xGG E G) {p : Program} {e : Env} {s : State} {m : MethodId} {args : Array Value} {below : List Frame} {meth : Method} {c : Code} {A : Nat → Prop} {post : Int32 → zH → Prop} (C : zCx p s m args meth c E G A 4 90 prog_5_method_4_code 4 cn_A) (hr : meth.sig.returnType = (some .boolean)) {i : Nat} (hi : i < 3) (l1 : Int32) (h : zH) :
    ∀ (t : List Int32) (k : Nat), k + t.length = 3 → (xSbyt.getD i []).drop k = t → post (fSpells h l1 t (nI k)) h → zGo p l e s m args below meth c E A 4 90 4 (zPi post) h 2 [some (.ref (E.2.2.1 5)), some (.int l1), some (.ref (E.2.2.2.1 i)), some (.int (nI k))] [] := by
  have hs := hG.2 A s C.2.2.2.2.2.2
  obtain ⟨e1, e2, e3⟩ := xSp i hi
  intro t
  induction t with
  | nil =>
    intro k hk hd hw
    have hk3 : k = 3 := by simpa using hk
    subst hk3
    refine z_iload_n C (i := 3) d_A_spells_2 rfl rfl ?_
    refine z_aload_n C (i := 2) d_A_spells_3 rfl rfl ?_
    refine z_callRi ⟨xN_ok, hG.1⟩ zT_good C (s_len hG (by omega) (post := fun v h2 => v = 3 ∧ h2 = h) ⟨by rw [e1]; decide, rfl⟩) js_len (fun H locs hS => vk_recv hs.1 (by omega) hS) (by decide) (by decide) pl_sLen rfl rfl (Nat.le_of_ble_eq_true rfl) d_A_spells_4 (fun v h2 hq => ?_)
    obtain ⟨rfl, rfl⟩ := hq
    refine z_icmp_ge C (tgt := 33) d_A_spells_7 (by decide) (fun _ => ?_) (fun q => absurd (by decide) q)
    refine z_iconst C (v := 1) d_A_spells_33 (by decide) ?_
    exact z_zret C hr rfl d_A_spells_34 hw
  | cons b t ih =>
    intro k hk hd hw
    simp only [List.length_cons] at hk
    have hk3 : k < 3 := by omega
    obtain ⟨a1, a2, a3, a4⟩ := zlt_ofNat (k := k) (n := 3) hk3 (by decide)
    have hb : (xSbyt.getD i []).getD k 0 = b := by
      have : (xSbyt.getD i [])[k]? = some b := by
        have := congrArg (fun l => l[0]?) hd
        simpa using this
      rw [List.getD_eq_getElem?_getD, this]; rfl
    have ht : (xSbyt.getD i []).drop (k + 1) = t := by
      have := congrArg List.tail hd
      simpa using this
    refine z_iload_n C (i := 3) d_A_spells_2 rfl rfl ?_
    refine z_aload_n C (i := 2) d_A_spells_3 rfl rfl ?_
    refine z_callRi ⟨xN_ok, hG.1⟩ zT_good C (s_len hG (by omega) (post := fun v h2 => v = 3 ∧ h2 = h) ⟨by rw [e1]; decide, rfl⟩) js_len (fun H locs hS => vk_recv hs.1 (by omega) hS) (by decide) (by decide) pl_sLen rfl rfl (Nat.le_of_ble_eq_true rfl) d_A_spells_4 (fun v h2 hq => ?_)
    obtain ⟨rfl, rfl⟩ := hq
    refine z_icmp_ge C (tgt := 33) d_A_spells_7 (by decide) (fun q => absurd q (nI_ge (a := k) (b := 3) hk3 (by decide))) (fun _ => ?_)
    refine z_aload_n C (i := 0) d_A_spells_10 rfl rfl ?_
    refine z_iload_n C (i := 1) d_A_spells_11 rfl rfl ?_
    refine z_iload_n C (i := 3) d_A_spells_12 rfl rfl ?_
    refine z_iadd C d_A_spells_13 ?_
    refine z_callVi ⟨xN_ok, hG.1⟩ zT_good C (t_A_signAt hG (sp_A_signAt (post := fun v h3 => v = fSign h2 (l1 + nI k) ∧ h3 = h2) ⟨rfl, rfl⟩)) (List.forall_mem_cons.mpr ⟨jw_337, wn_A_signAt⟩) (by decide) rfl rfl (by decide) (by decide) pl_A_signAt rfl rfl (Nat.le_of_ble_eq_true rfl) d_A_spells_14 (fun v h3 hq => ?_)
    obtain ⟨rfl, rfl⟩ := hq
    refine z_aload_n C (i := 2) d_A_spells_17 rfl rfl ?_
    refine z_iload_n C (i := 3) d_A_spells_18 rfl rfl ?_
    refine z_callRi ⟨xN_ok, hG.1⟩ zT_good C (s_cha hG (by omega) (by rw [e1]; exact hk3) (by rw [e1]; decide) (post := fun v h4 => v = b ∧ h4 = h3) ⟨by rw [e3 k hk3, hb], rfl⟩) js_cha (fun H locs hS => vk_recv hs.1 (by omega) hS) (by decide) (by decide) pl_sCha rfl rfl (Nat.le_of_ble_eq_true rfl) d_A_spells_19 (fun v h4 hq => ?_)
    obtain ⟨rfl, rfl⟩ := hq
    refine z_icmp_eq C (tgt := 27) d_A_spells_22 (by decide) (fun q => ?_) (fun q => ?_)
    · refine z_iinc C (v := nI (k + 1)) d_A_spells_27 rfl (nI_1 k) (by decide) rfl ?_
      refine z_goto C (tgt := 2) d_A_spells_30 (by decide) ?_
      refine z_le (lv2 := [some (.ref (E.2.2.1 5)), some (.int l1), some (.ref (E.2.2.2.1 i)), some (.int (nI (k + 1)))]) ⟨rfl, ⟨rfl, ⟨rfl, ⟨rfl, trivial⟩⟩⟩⟩ ?_
      refine ih (k + 1) (by omega) ht ?_
      rw [fSpells, if_pos q] at hw
      rw [← nI_1 k]
      exact hw
    · refine z_iconst C (v := 0) d_A_spells_25 (by decide) ?_
      rw [fSpells, if_neg q] at hw
      exact z_zret C hr rfl d_A_spells_26 hw
set_option maxRecDepth 100000 in
set_option maxHeartbeats 4000000 in
theorem t_A_spells {l : Launch} {E : zE} {G : (Nat → Prop) → State → Prop} (hG : xGG E G) {l1 : Int32} {i : Nat} {h : zH} {post : Int32 → zH → Prop} (hw : wp_A_spells l1 i h post) : Ct l xX E xcl xN zT G 4 90 y_A_spells prog_5_method_4_code 4 (some .boolean) [.ref (E.2.2.1 5), .int l1, .ref (E.2.2.2.1 i)] h (zPi post) := by
  obtain ⟨hi, hw⟩ := hw
  refine Ct.of (by decide) (Nat.le_of_ble_eq_true rfl) ?_
  intro p e s m below meth c A C hr
  refine z_lv (lv2 := [some (.ref (E.2.2.1 5)), some (.int l1), some (.ref (E.2.2.2.1 i)), none]) rfl ?_
  refine z_iconst C (v := 0) d_A_spells_0 (by decide) ?_
  refine z_istore_n C (i := 3) d_A_spells_1 rfl (by decide) rfl ?_
  refine z_le (lv2 := [some (.ref (E.2.2.1 5)), some (.int l1), some (.ref (E.2.2.2.1 i)), some (.int (nI 0))]) ⟨rfl, ⟨rfl, ⟨rfl, ⟨rfl, trivial⟩⟩⟩⟩ ?_
  exact w_A_spells hG C hr hi l1 h _ 0 (by rw [(xSp i hi).2.1]) rfl hw
end
