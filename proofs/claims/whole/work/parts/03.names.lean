def zT : List Cond := lw_tbl.filter goodWord
theorem zT_good : zGood zT := fun w hw => good_of_word (List.mem_filter.mp hw).2
theorem zt_mem {w : Cond} (i : Nat) (h : tables_1[i]? = some w) (hg : goodWord w = true) : w ∈ zT := List.mem_filter.mpr ⟨List.mem_append_right _ (List.mem_of_getElem? h), hg⟩
theorem zt_m1 {w : Cond} (i : Nat) (h : tables_1_1[i]? = some w) (hg : goodWord w = true) : w ∈ zT := List.mem_filter.mpr ⟨List.mem_append_right _ (List.mem_append_left _ (List.mem_of_getElem? h)), hg⟩
theorem zt_m2 {w : Cond} (i : Nat) (h : tables_1_2[i]? = some w) (hg : goodWord w = true) : w ∈ zT := List.mem_filter.mpr ⟨List.mem_append_right _ (List.mem_append_right _ (List.mem_append_left _ (List.mem_of_getElem? h))), hg⟩
theorem zt_m3 {w : Cond} (i : Nat) (h : tables_1_3[i]? = some w) (hg : goodWord w = true) : w ∈ zT := List.mem_filter.mpr ⟨List.mem_append_right _ (List.mem_append_right _ (List.mem_append_right _ (List.mem_append_left _ (List.mem_of_getElem? h)))), hg⟩
theorem zt_m4 {w : Cond} (i : Nat) (h : tables_1_4[i]? = some w) (hg : goodWord w = true) : w ∈ zT := List.mem_filter.mpr ⟨List.mem_append_right _ (List.mem_append_right _ (List.mem_append_right _ (List.mem_append_right _ (List.mem_append_left _ (List.mem_of_getElem? h))))), hg⟩
theorem zt_m5 {w : Cond} (i : Nat) (h : tables_1_5[i]? = some w) (hg : goodWord w = true) : w ∈ zT := List.mem_filter.mpr ⟨List.mem_append_right _ (List.mem_append_right _ (List.mem_append_right _ (List.mem_append_right _ (List.mem_append_right _ (List.mem_of_getElem? h))))), hg⟩
theorem zt_sel {q : MethodName × Nat} (i : Nat) (h : lw_privs[i]? = some q) : Cond.selects q.1.cls q.1 q.1 ∈ zT := List.mem_filter.mpr ⟨List.mem_append_left _ (List.mem_map.mpr ⟨q, List.mem_of_getElem? h, rfl⟩), rfl⟩
def cn_R : String := "RangeReckoner"
def cf_R : u_T := fun k => match k with
  | 0 => ("RangeReckoner", "variables", "LRangeReckoner$Variables;", true)
  | 1 => ("RangeReckoner", "tape", "LRangeReckoner$Tape;", true)
  | 2 => ("RangeReckoner", "parser", "LRangeReckoner$Parser;", true)
  | 3 => ("RangeReckoner", "term", "LRangeReckoner$Term;", false)
  | _ => ("RangeReckoner", "spare", "LRangeReckoner$Term;", false)
def ct_R : Nat → FieldType := fun k => match k with
  | 0 => .object "RangeReckoner$Variables"
  | 1 => .object "RangeReckoner$Tape"
  | 2 => .object "RangeReckoner$Parser"
  | 3 => .object "RangeReckoner$Term"
  | _ => .object "RangeReckoner$Term"
theorem nm_R : ∀ a, a < 5 → ∀ b, b < 5 → a ≠ b → (cf_R a).2.1 ≠ (cf_R b).2.1 := by decide +kernel
theorem ty_R : ∀ k, k < 5 → parseFieldDescriptor (cf_R k).2.2.1 = some (ct_R k) := by decide +kernel
theorem in_R : ∀ w ∈ u_ws cn_R cf_R 5, w ∈ zT := by
  show ∀ w ∈ [u_lay cn_R cf_R 0, u_lay cn_R cf_R 1, u_lay cn_R cf_R 2, u_lay cn_R cf_R 3, u_lay cn_R cf_R 4], w ∈ zT
  exact List.forall_mem_cons.mpr ⟨zt_m1 215 rfl rfl, List.forall_mem_cons.mpr ⟨zt_m1 217 rfl rfl, List.forall_mem_cons.mpr ⟨zt_m1 219 rfl rfl, List.forall_mem_cons.mpr ⟨zt_m1 221 rfl rfl, List.forall_mem_cons.mpr ⟨zt_m1 223 rfl rfl, fun _ h => absurd h List.not_mem_nil⟩⟩⟩⟩⟩
def cn_V : String := "RangeReckoner$Variables"
def cf_V : u_T := fun k => match k with
  | 0 => ("RangeReckoner$Variables", "low", "[I", true)
  | 1 => ("RangeReckoner$Variables", "high", "[I", true)
  | 2 => ("RangeReckoner$Variables", "worth", "[I", true)
  | _ => ("RangeReckoner$Variables", "size", "I", false)
def ct_V : Nat → FieldType := fun k => match k with
  | 0 => .array .int
  | 1 => .array .int
  | 2 => .array .int
  | _ => .int
theorem nm_V : ∀ a, a < 4 → ∀ b, b < 4 → a ≠ b → (cf_V a).2.1 ≠ (cf_V b).2.1 := by decide +kernel
theorem ty_V : ∀ k, k < 4 → parseFieldDescriptor (cf_V k).2.2.1 = some (ct_V k) := by decide +kernel
theorem in_V : ∀ w ∈ u_ws cn_V cf_V 4, w ∈ zT := by
  show ∀ w ∈ [u_lay cn_V cf_V 0, u_lay cn_V cf_V 1, u_lay cn_V cf_V 2, u_lay cn_V cf_V 3], w ∈ zT
  exact List.forall_mem_cons.mpr ⟨zt_m1 38 rfl rfl, List.forall_mem_cons.mpr ⟨zt_m1 40 rfl rfl, List.forall_mem_cons.mpr ⟨zt_m1 42 rfl rfl, List.forall_mem_cons.mpr ⟨zt_m1 44 rfl rfl, fun _ h => absurd h List.not_mem_nil⟩⟩⟩⟩
def cn_A : String := "RangeReckoner$Tape"
def cf_A : u_T := fun k => match k with
  | 0 => ("RangeReckoner$Tape", "signs", "[I", true)
  | _ => ("RangeReckoner$Tape", "length", "I", false)
def ct_A : Nat → FieldType := fun k => match k with
  | 0 => .array .int
  | _ => .int
theorem nm_A : ∀ a, a < 2 → ∀ b, b < 2 → a ≠ b → (cf_A a).2.1 ≠ (cf_A b).2.1 := by decide +kernel
theorem ty_A : ∀ k, k < 2 → parseFieldDescriptor (cf_A k).2.2.1 = some (ct_A k) := by decide +kernel
theorem in_A : ∀ w ∈ u_ws cn_A cf_A 2, w ∈ zT := by
  show ∀ w ∈ [u_lay cn_A cf_A 0, u_lay cn_A cf_A 1], w ∈ zT
  exact List.forall_mem_cons.mpr ⟨zt_m1 58 rfl rfl, List.forall_mem_cons.mpr ⟨zt_m1 60 rfl rfl, fun _ h => absurd h List.not_mem_nil⟩⟩
def cn_T : String := "RangeReckoner$Term"
def cf_T : u_T := fun k => match k with
  | 0 => ("RangeReckoner$Term", "operator", "[I", true)
  | 1 => ("RangeReckoner$Term", "place", "[I", true)
  | 2 => ("RangeReckoner$Term", "kind", "[I", true)
  | 3 => ("RangeReckoner$Term", "low", "[I", true)
  | 4 => ("RangeReckoner$Term", "high", "[I", true)
  | 5 => ("RangeReckoner$Term", "left", "[I", true)
  | 6 => ("RangeReckoner$Term", "right", "[I", true)
  | 7 => ("RangeReckoner$Term", "extra", "[I", true)
  | 8 => ("RangeReckoner$Term", "depth", "[I", true)
  | 9 => ("RangeReckoner$Term", "worth", "[J", true)
  | _ => ("RangeReckoner$Term", "size", "I", false)
def ct_T : Nat → FieldType := fun k => match k with
  | 0 => .array .int
  | 1 => .array .int
  | 2 => .array .int
  | 3 => .array .int
  | 4 => .array .int
  | 5 => .array .int
  | 6 => .array .int
  | 7 => .array .int
  | 8 => .array .int
  | 9 => .array .long
  | _ => .int
theorem nm_T : ∀ a, a < 11 → ∀ b, b < 11 → a ≠ b → (cf_T a).2.1 ≠ (cf_T b).2.1 := by decide +kernel
theorem ty_T : ∀ k, k < 11 → parseFieldDescriptor (cf_T k).2.2.1 = some (ct_T k) := by decide +kernel
theorem in_T : ∀ w ∈ u_ws cn_T cf_T 11, w ∈ zT := by
  show ∀ w ∈ [u_lay cn_T cf_T 0, u_lay cn_T cf_T 1, u_lay cn_T cf_T 2, u_lay cn_T cf_T 3, u_lay cn_T cf_T 4, u_lay cn_T cf_T 5, u_lay cn_T cf_T 6, u_lay cn_T cf_T 7, u_lay cn_T cf_T 8, u_lay cn_T cf_T 9, u_lay cn_T cf_T 10], w ∈ zT
  exact List.forall_mem_cons.mpr ⟨zt_m1 82 rfl rfl, List.forall_mem_cons.mpr ⟨zt_m1 84 rfl rfl, List.forall_mem_cons.mpr ⟨zt_m1 86 rfl rfl, List.forall_mem_cons.mpr ⟨zt_m1 88 rfl rfl, List.forall_mem_cons.mpr ⟨zt_m1 90 rfl rfl, List.forall_mem_cons.mpr ⟨zt_m1 92 rfl rfl, List.forall_mem_cons.mpr ⟨zt_m1 94 rfl rfl, List.forall_mem_cons.mpr ⟨zt_m1 96 rfl rfl, List.forall_mem_cons.mpr ⟨zt_m1 98 rfl rfl, List.forall_mem_cons.mpr ⟨zt_m1 100 rfl rfl, List.forall_mem_cons.mpr ⟨zt_m1 102 rfl rfl, fun _ h => absurd h List.not_mem_nil⟩⟩⟩⟩⟩⟩⟩⟩⟩⟩⟩
def cn_P : String := "RangeReckoner$Parser"
def cf_P : u_T := fun k => match k with
  | 0 => ("RangeReckoner$Parser", "variables", "LRangeReckoner$Variables;", true)
  | 1 => ("RangeReckoner$Parser", "tokens", "LRangeReckoner$Tokens;", true)
  | 2 => ("RangeReckoner$Parser", "pending", "LRangeReckoner$Pending;", true)
  | 3 => ("RangeReckoner$Parser", "loose", "[I", true)
  | 4 => ("RangeReckoner$Parser", "looseSize", "I", false)
  | 5 => ("RangeReckoner$Parser", "first", "LRangeReckoner$Range;", true)
  | 6 => ("RangeReckoner$Parser", "second", "LRangeReckoner$Range;", true)
  | 7 => ("RangeReckoner$Parser", "given", "LRangeReckoner$Range;", true)
  | 8 => ("RangeReckoner$Parser", "term", "LRangeReckoner$Term;", false)
  | 9 => ("RangeReckoner$Parser", "wanted", "I", false)
  | _ => ("RangeReckoner$Parser", "fault", "I", false)
def ct_P : Nat → FieldType := fun k => match k with
  | 0 => .object "RangeReckoner$Variables"
  | 1 => .object "RangeReckoner$Tokens"
  | 2 => .object "RangeReckoner$Pending"
  | 3 => .array .int
  | 4 => .int
  | 5 => .object "RangeReckoner$Range"
  | 6 => .object "RangeReckoner$Range"
  | 7 => .object "RangeReckoner$Range"
  | 8 => .object "RangeReckoner$Term"
  | 9 => .int
  | _ => .int
theorem nm_P : ∀ a, a < 11 → ∀ b, b < 11 → a ≠ b → (cf_P a).2.1 ≠ (cf_P b).2.1 := by decide +kernel
theorem ty_P : ∀ k, k < 11 → parseFieldDescriptor (cf_P k).2.2.1 = some (ct_P k) := by decide +kernel
theorem in_P : ∀ w ∈ u_ws cn_P cf_P 11, w ∈ zT := by
  show ∀ w ∈ [u_lay cn_P cf_P 0, u_lay cn_P cf_P 1, u_lay cn_P cf_P 2, u_lay cn_P cf_P 3, u_lay cn_P cf_P 4, u_lay cn_P cf_P 5, u_lay cn_P cf_P 6, u_lay cn_P cf_P 7, u_lay cn_P cf_P 8, u_lay cn_P cf_P 9, u_lay cn_P cf_P 10], w ∈ zT
  exact List.forall_mem_cons.mpr ⟨zt_m1 187 rfl rfl, List.forall_mem_cons.mpr ⟨zt_m1 189 rfl rfl, List.forall_mem_cons.mpr ⟨zt_m1 191 rfl rfl, List.forall_mem_cons.mpr ⟨zt_m1 193 rfl rfl, List.forall_mem_cons.mpr ⟨zt_m1 195 rfl rfl, List.forall_mem_cons.mpr ⟨zt_m1 197 rfl rfl, List.forall_mem_cons.mpr ⟨zt_m1 199 rfl rfl, List.forall_mem_cons.mpr ⟨zt_m1 201 rfl rfl, List.forall_mem_cons.mpr ⟨zt_m1 203 rfl rfl, List.forall_mem_cons.mpr ⟨zt_m1 205 rfl rfl, List.forall_mem_cons.mpr ⟨zt_m1 207 rfl rfl, fun _ h => absurd h List.not_mem_nil⟩⟩⟩⟩⟩⟩⟩⟩⟩⟩⟩
def cn_K : String := "RangeReckoner$Tokens"
def cf_K : u_T := fun k => match k with
  | 0 => ("RangeReckoner$Tokens", "tape", "LRangeReckoner$Tape;", true)
  | 1 => ("RangeReckoner$Tokens", "next", "I", false)
  | 2 => ("RangeReckoner$Tokens", "token", "I", false)
  | 3 => ("RangeReckoner$Tokens", "place", "I", false)
  | _ => ("RangeReckoner$Tokens", "number", "I", false)
def ct_K : Nat → FieldType := fun k => match k with
  | 0 => .object "RangeReckoner$Tape"
  | 1 => .int
  | 2 => .int
  | 3 => .int
  | _ => .int
theorem nm_K : ∀ a, a < 5 → ∀ b, b < 5 → a ≠ b → (cf_K a).2.1 ≠ (cf_K b).2.1 := by decide +kernel
theorem ty_K : ∀ k, k < 5 → parseFieldDescriptor (cf_K k).2.2.1 = some (ct_K k) := by decide +kernel
theorem in_K : ∀ w ∈ u_ws cn_K cf_K 5, w ∈ zT := by
  show ∀ w ∈ [u_lay cn_K cf_K 0, u_lay cn_K cf_K 1, u_lay cn_K cf_K 2, u_lay cn_K cf_K 3, u_lay cn_K cf_K 4], w ∈ zT
  exact List.forall_mem_cons.mpr ⟨zt_m1 165 rfl rfl, List.forall_mem_cons.mpr ⟨zt_m1 167 rfl rfl, List.forall_mem_cons.mpr ⟨zt_m1 169 rfl rfl, List.forall_mem_cons.mpr ⟨zt_m1 171 rfl rfl, List.forall_mem_cons.mpr ⟨zt_m1 173 rfl rfl, fun _ h => absurd h List.not_mem_nil⟩⟩⟩⟩⟩
def cn_G : String := "RangeReckoner$Pending"
def cf_G : u_T := fun k => match k with
  | 0 => ("RangeReckoner$Pending", "code", "[I", true)
  | 1 => ("RangeReckoner$Pending", "place", "[I", true)
  | 2 => ("RangeReckoner$Pending", "awaited", "[I", true)
  | 3 => ("RangeReckoner$Pending", "size", "I", false)
  | _ => ("RangeReckoner$Pending", "nested", "I", false)
def ct_G : Nat → FieldType := fun k => match k with
  | 0 => .array .int
  | 1 => .array .int
  | 2 => .array .int
  | 3 => .int
  | _ => .int
theorem nm_G : ∀ a, a < 5 → ∀ b, b < 5 → a ≠ b → (cf_G a).2.1 ≠ (cf_G b).2.1 := by decide +kernel
theorem ty_G : ∀ k, k < 5 → parseFieldDescriptor (cf_G k).2.2.1 = some (ct_G k) := by decide +kernel
theorem in_G : ∀ w ∈ u_ws cn_G cf_G 5, w ∈ zT := by
  show ∀ w ∈ [u_lay cn_G cf_G 0, u_lay cn_G cf_G 1, u_lay cn_G cf_G 2, u_lay cn_G cf_G 3, u_lay cn_G cf_G 4], w ∈ zT
  exact List.forall_mem_cons.mpr ⟨zt_m1 125 rfl rfl, List.forall_mem_cons.mpr ⟨zt_m1 127 rfl rfl, List.forall_mem_cons.mpr ⟨zt_m1 129 rfl rfl, List.forall_mem_cons.mpr ⟨zt_m1 131 rfl rfl, List.forall_mem_cons.mpr ⟨zt_m1 133 rfl rfl, fun _ h => absurd h List.not_mem_nil⟩⟩⟩⟩⟩
def cn_N : String := "RangeReckoner$Range"
def cf_N : u_T := fun k => match k with
  | 0 => ("RangeReckoner$Range", "low", "J", false)
  | _ => ("RangeReckoner$Range", "high", "J", false)
def ct_N : Nat → FieldType := fun k => match k with
  | 0 => .long
  | _ => .long
theorem nm_N : ∀ a, a < 2 → ∀ b, b < 2 → a ≠ b → (cf_N a).2.1 ≠ (cf_N b).2.1 := by decide +kernel
theorem ty_N : ∀ k, k < 2 → parseFieldDescriptor (cf_N k).2.2.1 = some (ct_N k) := by decide +kernel
theorem in_N : ∀ w ∈ u_ws cn_N cf_N 2, w ∈ zT := by
  show ∀ w ∈ [u_lay cn_N cf_N 0, u_lay cn_N cf_N 1], w ∈ zT
  exact List.forall_mem_cons.mpr ⟨zt_m1 146 rfl rfl, List.forall_mem_cons.mpr ⟨zt_m1 148 rfl rfl, fun _ h => absurd h List.not_mem_nil⟩⟩
def cn_M : String := "RangeReckonerModel"
def cf_M : u_T := fun k => match k with
  | 0 => ("RangeReckonerModel", "thrown", "I", false)
  | 1 => ("RangeReckonerModel", "variables", "I", false)
  | 2 => ("RangeReckonerModel", "low", "[I", true)
  | 3 => ("RangeReckonerModel", "high", "[I", true)
  | 4 => ("RangeReckonerModel", "given", "[I", true)
  | 5 => ("RangeReckonerModel", "tape", "[I", true)
  | 6 => ("RangeReckonerModel", "taped", "I", false)
  | 7 => ("RangeReckonerModel", "size", "I", false)
  | 8 => ("RangeReckonerModel", "tk", "I", false)
  | 9 => ("RangeReckonerModel", "from", "I", false)
  | 10 => ("RangeReckonerModel", "to", "I", false)
  | 11 => ("RangeReckonerModel", "number", "J", false)
  | 12 => ("RangeReckonerModel", "ptOp", "[I", true)
  | 13 => ("RangeReckonerModel", "ptPlace", "[I", true)
  | 14 => ("RangeReckonerModel", "ptKind", "[I", true)
  | 15 => ("RangeReckonerModel", "ptLow", "[J", true)
  | 16 => ("RangeReckonerModel", "ptHigh", "[J", true)
  | 17 => ("RangeReckonerModel", "ptA", "[I", true)
  | 18 => ("RangeReckonerModel", "ptB", "[I", true)
  | 19 => ("RangeReckonerModel", "ptC", "[I", true)
  | 20 => ("RangeReckonerModel", "ptDeep", "[I", true)
  | 21 => ("RangeReckonerModel", "ptNumber", "[J", true)
  | 22 => ("RangeReckonerModel", "read", "I", false)
  | 23 => ("RangeReckonerModel", "many", "I", false)
  | 24 => ("RangeReckonerModel", "fault", "I", false)
  | 25 => ("RangeReckonerModel", "wtOp", "[I", true)
  | 26 => ("RangeReckonerModel", "wtPlace", "[I", true)
  | 27 => ("RangeReckonerModel", "wtRead", "[I", true)
  | 28 => ("RangeReckonerModel", "waits", "I", false)
  | 29 => ("RangeReckonerModel", "pile", "[I", true)
  | 30 => ("RangeReckonerModel", "piled", "I", false)
  | 31 => ("RangeReckonerModel", "deep", "I", false)
  | 32 => ("RangeReckonerModel", "least", "J", false)
  | 33 => ("RangeReckonerModel", "greatest", "J", false)
  | _ => ("RangeReckonerModel", "worth", "[J", true)
def ct_M : Nat → FieldType := fun k => match k with
  | 0 => .int
  | 1 => .int
  | 2 => .array .int
  | 3 => .array .int
  | 4 => .array .int
  | 5 => .array .int
  | 6 => .int
  | 7 => .int
  | 8 => .int
  | 9 => .int
  | 10 => .int
  | 11 => .long
  | 12 => .array .int
  | 13 => .array .int
  | 14 => .array .int
  | 15 => .array .long
  | 16 => .array .long
  | 17 => .array .int
  | 18 => .array .int
  | 19 => .array .int
  | 20 => .array .int
  | 21 => .array .long
  | 22 => .int
  | 23 => .int
  | 24 => .int
  | 25 => .array .int
  | 26 => .array .int
  | 27 => .array .int
  | 28 => .int
  | 29 => .array .int
  | 30 => .int
  | 31 => .int
  | 32 => .long
  | 33 => .long
  | _ => .array .long
theorem nm_M : ∀ a, a < 35 → ∀ b, b < 35 → a ≠ b → (cf_M a).2.1 ≠ (cf_M b).2.1 := by decide +kernel
theorem ty_M : ∀ k, k < 35 → parseFieldDescriptor (cf_M k).2.2.1 = some (ct_M k) := by decide +kernel
theorem in_M : ∀ w ∈ u_ws cn_M cf_M 35, w ∈ zT := by
  show ∀ w ∈ [u_lay cn_M cf_M 0, u_lay cn_M cf_M 1, u_lay cn_M cf_M 2, u_lay cn_M cf_M 3, u_lay cn_M cf_M 4, u_lay cn_M cf_M 5, u_lay cn_M cf_M 6, u_lay cn_M cf_M 7, u_lay cn_M cf_M 8, u_lay cn_M cf_M 9, u_lay cn_M cf_M 10, u_lay cn_M cf_M 11, u_lay cn_M cf_M 12, u_lay cn_M cf_M 13, u_lay cn_M cf_M 14, u_lay cn_M cf_M 15, u_lay cn_M cf_M 16, u_lay cn_M cf_M 17, u_lay cn_M cf_M 18, u_lay cn_M cf_M 19, u_lay cn_M cf_M 20, u_lay cn_M cf_M 21, u_lay cn_M cf_M 22, u_lay cn_M cf_M 23, u_lay cn_M cf_M 24, u_lay cn_M cf_M 25, u_lay cn_M cf_M 26, u_lay cn_M cf_M 27, u_lay cn_M cf_M 28, u_lay cn_M cf_M 29, u_lay cn_M cf_M 30, u_lay cn_M cf_M 31, u_lay cn_M cf_M 32, u_lay cn_M cf_M 33, u_lay cn_M cf_M 34], w ∈ zT
  exact List.forall_mem_cons.mpr ⟨zt_m4 36 rfl rfl, List.forall_mem_cons.mpr ⟨zt_m4 38 rfl rfl, List.forall_mem_cons.mpr ⟨zt_m4 40 rfl rfl, List.forall_mem_cons.mpr ⟨zt_m4 42 rfl rfl, List.forall_mem_cons.mpr ⟨zt_m4 44 rfl rfl, List.forall_mem_cons.mpr ⟨zt_m4 46 rfl rfl, List.forall_mem_cons.mpr ⟨zt_m4 48 rfl rfl, List.forall_mem_cons.mpr ⟨zt_m4 50 rfl rfl, List.forall_mem_cons.mpr ⟨zt_m4 52 rfl rfl, List.forall_mem_cons.mpr ⟨zt_m4 54 rfl rfl, List.forall_mem_cons.mpr ⟨zt_m4 56 rfl rfl, List.forall_mem_cons.mpr ⟨zt_m4 58 rfl rfl, List.forall_mem_cons.mpr ⟨zt_m4 60 rfl rfl, List.forall_mem_cons.mpr ⟨zt_m4 62 rfl rfl, List.forall_mem_cons.mpr ⟨zt_m4 64 rfl rfl, List.forall_mem_cons.mpr ⟨zt_m4 66 rfl rfl, List.forall_mem_cons.mpr ⟨zt_m4 68 rfl rfl, List.forall_mem_cons.mpr ⟨zt_m4 70 rfl rfl, List.forall_mem_cons.mpr ⟨zt_m4 72 rfl rfl, List.forall_mem_cons.mpr ⟨zt_m4 74 rfl rfl, List.forall_mem_cons.mpr ⟨zt_m4 76 rfl rfl, List.forall_mem_cons.mpr ⟨zt_m4 78 rfl rfl, List.forall_mem_cons.mpr ⟨zt_m4 80 rfl rfl, List.forall_mem_cons.mpr ⟨zt_m4 82 rfl rfl, List.forall_mem_cons.mpr ⟨zt_m4 84 rfl rfl, List.forall_mem_cons.mpr ⟨zt_m4 86 rfl rfl, List.forall_mem_cons.mpr ⟨zt_m4 88 rfl rfl, List.forall_mem_cons.mpr ⟨zt_m4 90 rfl rfl, List.forall_mem_cons.mpr ⟨zt_m4 92 rfl rfl, List.forall_mem_cons.mpr ⟨zt_m4 94 rfl rfl, List.forall_mem_cons.mpr ⟨zt_m4 96 rfl rfl, List.forall_mem_cons.mpr ⟨zt_m4 98 rfl rfl, List.forall_mem_cons.mpr ⟨zt_m4 100 rfl rfl, List.forall_mem_cons.mpr ⟨zt_m4 102 rfl rfl, List.forall_mem_cons.mpr ⟨zt_m4 104 rfl rfl, fun _ h => absurd h List.not_mem_nil⟩⟩⟩⟩⟩⟩⟩⟩⟩⟩⟩⟩⟩⟩⟩⟩⟩⟩⟩⟩⟩⟩⟩⟩⟩⟩⟩⟩⟩⟩⟩⟩⟩⟩⟩
abbrev xcl : List vw_C := [(cn_R, cf_R, 5), (cn_V, cf_V, 4), (cn_A, cf_A, 2), (cn_T, cf_T, 11), (cn_P, cf_P, 11), (cn_K, cf_K, 5), (cn_G, cf_G, 5), (cn_N, cf_N, 2), (cn_M, cf_M, 35)]
def xkd : List (Nat × Nat) := [(0, 0), (0, 1), (1, 20), (1, 20), (1, 20), (0, 2), (1, 400), (0, 3), (1, 100), (1, 100), (1, 100), (1, 100), (1, 100), (1, 100), (1, 100), (1, 100), (1, 100), (2, 100), (0, 3), (1, 100), (1, 100), (1, 100), (1, 100), (1, 100), (1, 100), (1, 100), (1, 100), (1, 100), (2, 100), (0, 4), (0, 5), (0, 6), (1, 197), (1, 197), (1, 197), (1, 100), (0, 7), (0, 7), (0, 7), (0, 8), (1, 20), (1, 20), (1, 20), (1, 400), (1, 200), (1, 200), (1, 200), (2, 200), (2, 200), (1, 200), (1, 200), (1, 200), (1, 200), (2, 200), (1, 300), (1, 300), (1, 300), (1, 300), (2, 100), (2, 1)]
def xsl : List (List (Nat × Nat)) := [[(3, 1), (3, 5), (3, 29), (4, 0), (4, 0)], [(3, 2), (3, 3), (3, 4), (0, 0)], [(3, 6), (0, 0)], [(2, 1), (2, 2), (2, 3), (2, 4), (2, 5), (2, 6), (2, 7), (2, 8), (2, 9), (2, 10), (0, 0)], [(3, 1), (3, 30), (3, 31), (3, 35), (0, 0), (3, 36), (3, 37), (3, 38), (4, 0), (0, 0), (0, 0)], [(3, 5), (0, 0), (0, 0), (0, 0), (0, 0)], [(3, 32), (3, 33), (3, 34), (0, 0), (0, 0)], [(1, 0), (1, 0)], [(0, 0), (0, 0), (3, 40), (3, 41), (3, 42), (3, 43), (0, 0), (0, 0), (0, 0), (0, 0), (0, 0), (1, 0), (3, 44), (3, 45), (3, 46), (3, 47), (3, 48), (3, 49), (3, 50), (3, 51), (3, 52), (3, 53), (0, 0), (0, 0), (0, 0), (3, 54), (3, 55), (3, 56), (0, 0), (3, 57), (0, 0), (0, 0), (1, 0), (1, 0), (3, 58)]]
def xX : zX := (60, fun k => xkd.getD k (9, 0), fun c => xsl.getD c [])
def xTm (k : Nat) : Prop := k = 7 ∨ k = 18
def xRg (k : Nat) : Prop := k = 36 ∨ k = 37 ∨ k = 38
def xRow (k n : Nat) : Prop := k < xX.1 ∧ xX.2.1 k = (1, n)
theorem xTm_l0 {k : Nat} (h : xTm k) : k < xX.1 := by rcases h with rfl | rfl <;> decide
theorem xTm_l {k j : Nat} (h : xTm k) (hj : j < 11) : k + j < xX.1 := by rcases h with rfl | rfl <;> (show _ < 60; omega)
theorem xTm_0 {k : Nat} (h : xTm k) : xX.2.1 k = (0, 3) := by rcases h with rfl | rfl <;> rfl
theorem xRg_l0 {k : Nat} (h : xRg k) : k < xX.1 := by rcases h with rfl | rfl | rfl <;> decide
theorem xRg_0 {k : Nat} (h : xRg k) : xX.2.1 k = (0, 7) := by rcases h with rfl | rfl | rfl <;> rfl
theorem xTm_1 {k : Nat} (h : xTm k) : xX.2.1 (k + 1) = (1, 100) := by rcases h with rfl | rfl <;> rfl
theorem xTm_2 {k : Nat} (h : xTm k) : xX.2.1 (k + 2) = (1, 100) := by rcases h with rfl | rfl <;> rfl
theorem xTm_3 {k : Nat} (h : xTm k) : xX.2.1 (k + 3) = (1, 100) := by rcases h with rfl | rfl <;> rfl
theorem xTm_4 {k : Nat} (h : xTm k) : xX.2.1 (k + 4) = (1, 100) := by rcases h with rfl | rfl <;> rfl
theorem xTm_5 {k : Nat} (h : xTm k) : xX.2.1 (k + 5) = (1, 100) := by rcases h with rfl | rfl <;> rfl
theorem xTm_6 {k : Nat} (h : xTm k) : xX.2.1 (k + 6) = (1, 100) := by rcases h with rfl | rfl <;> rfl
theorem xTm_7 {k : Nat} (h : xTm k) : xX.2.1 (k + 7) = (1, 100) := by rcases h with rfl | rfl <;> rfl
theorem xTm_8 {k : Nat} (h : xTm k) : xX.2.1 (k + 8) = (1, 100) := by rcases h with rfl | rfl <;> rfl
theorem xTm_9 {k : Nat} (h : xTm k) : xX.2.1 (k + 9) = (1, 100) := by rcases h with rfl | rfl <;> rfl
theorem xTm_10 {k : Nat} (h : xTm k) : xX.2.1 (k + 10) = (2, 100) := by rcases h with rfl | rfl <;> rfl
def xN : List Cond := [(Cond.methodLinkNest "RangeReckoner" (11 : Nat) ({ cls := "RangeReckoner$Variables", name := "<init>", desc := "()V" } : MethodName) "RangeReckoner"), (Cond.fieldLinkNest "RangeReckoner" (97 : Nat) "RangeReckoner$Variables" "size" "I" "RangeReckoner"), (Cond.methodLinkNest "RangeReckoner" (18 : Nat) ({ cls := "RangeReckoner$Tape", name := "<init>", desc := "()V" } : MethodName) "RangeReckoner"), (Cond.fieldLinkNest "RangeReckoner$Tokens" (53 : Nat) "RangeReckoner$Tape" "length" "I" "RangeReckoner"), (Cond.fieldLinkNest "RangeReckoner" (53 : Nat) "RangeReckoner$Tape" "length" "I" "RangeReckoner"), (Cond.methodLinkNest "RangeReckoner" (25 : Nat) ({ cls := "RangeReckoner$Term", name := "<init>", desc := "()V" } : MethodName) "RangeReckoner"), (Cond.fieldLinkNest "RangeReckoner" (92 : Nat) "RangeReckoner$Term" "size" "I" "RangeReckoner"), (Cond.fieldLinkNest "RangeReckoner$Parser" (152 : Nat) "RangeReckoner$Term" "size" "I" "RangeReckoner"), (Cond.methodLinkNest "RangeReckoner" (35 : Nat) ({ cls := "RangeReckoner$Parser", name := "<init>", desc := "(LRangeReckoner$Variables;LRangeReckoner$Tape;LRangeReckoner$Term;)V" } : MethodName) "RangeReckoner"), (Cond.methodLinkNest "RangeReckoner$Parser" (11 : Nat) ({ cls := "RangeReckoner$Pending", name := "<init>", desc := "()V" } : MethodName) "RangeReckoner"), (Cond.fieldLinkNest "RangeReckoner$Parser" (199 : Nat) "RangeReckoner$Pending" "size" "I" "RangeReckoner"), (Cond.fieldLinkNest "RangeReckoner$Parser" (130 : Nat) "RangeReckoner$Pending" "nested" "I" "RangeReckoner"), (Cond.methodLinkNest "RangeReckoner$Parser" (28 : Nat) ({ cls := "RangeReckoner$Range", name := "<init>", desc := "()V" } : MethodName) "RangeReckoner"), (Cond.fieldLinkNest "RangeReckoner$Parser" (142 : Nat) "RangeReckoner$Range" "low" "J" "RangeReckoner"), (Cond.fieldLinkNest "RangeReckoner$Parser" (146 : Nat) "RangeReckoner$Range" "high" "J" "RangeReckoner"), (Cond.methodLinkNest "RangeReckoner$Parser" (51 : Nat) ({ cls := "RangeReckoner$Tokens", name := "<init>", desc := "(LRangeReckoner$Tape;)V" } : MethodName) "RangeReckoner"), (Cond.fieldLinkNest "RangeReckoner$Parser" (90 : Nat) "RangeReckoner$Tokens" "token" "I" "RangeReckoner"), (Cond.fieldLinkNest "RangeReckoner$Parser" (100 : Nat) "RangeReckoner$Tokens" "place" "I" "RangeReckoner"), (Cond.fieldLinkNest "RangeReckoner$Parser" (93 : Nat) "RangeReckoner$Tokens" "number" "I" "RangeReckoner"), (Cond.methodLinkNest "RangeReckoner" (42 : Nat) ({ cls := "RangeReckoner$Variables", name := "add", desc := "(II)I" } : MethodName) "RangeReckoner"), (Cond.methodLinkNest "RangeReckoner" (46 : Nat) ({ cls := "RangeReckoner$Variables", name := "set", desc := "(II)Z" } : MethodName) "RangeReckoner"), (Cond.methodLinkNest "RangeReckoner" (50 : Nat) ({ cls := "RangeReckoner$Tape", name := "append", desc := "(II)Z" } : MethodName) "RangeReckoner"), (Cond.methodLinkNest "RangeReckoner" (57 : Nat) ({ cls := "RangeReckoner$Parser", name := "read", desc := "(LRangeReckoner$Term;)I" } : MethodName) "RangeReckoner"), (Cond.methodLinkNest "RangeReckoner$Parser" (82 : Nat) ({ cls := "RangeReckoner$Term", name := "clear", desc := "()V" } : MethodName) "RangeReckoner"), (Cond.methodLinkNest "RangeReckoner$Parser" (87 : Nat) ({ cls := "RangeReckoner$Tokens", name := "restart", desc := "()V" } : MethodName) "RangeReckoner"), (Cond.methodLinkNest "RangeReckoner$Parser" (89 : Nat) ({ cls := "RangeReckoner$Pending", name := "clear", desc := "()V" } : MethodName) "RangeReckoner"), (Cond.methodLinkNest "RangeReckoner$Parser" (66 : Nat) ({ cls := "RangeReckoner$Tokens", name := "advance", desc := "()V" } : MethodName) "RangeReckoner"), (Cond.methodLinkNest "RangeReckoner$Tokens" (31 : Nat) ({ cls := "RangeReckoner$Tape", name := "signAt", desc := "(I)I" } : MethodName) "RangeReckoner"), (Cond.methodLinkNest "RangeReckoner$Tape" (19 : Nat) ({ cls := "RangeReckoner", name := "at", desc := "([II)I" } : MethodName) "RangeReckoner"), (Cond.methodLinkNest "RangeReckoner$Tokens" (37 : Nat) ({ cls := "RangeReckoner", name := "isDigit", desc := "(I)Z" } : MethodName) "RangeReckoner"), (Cond.methodLinkNest "RangeReckoner$Tokens" (62 : Nat) ({ cls := "RangeReckoner$Tape", name := "spells", desc := "(ILjava/lang/String;)Z" } : MethodName) "RangeReckoner"), (Cond.methodLinkNest "RangeReckoner$Parser" (96 : Nat) ({ cls := "RangeReckoner$Range", name := "put", desc := "(JJ)V" } : MethodName) "RangeReckoner"), (Cond.methodLinkNest "RangeReckoner$Parser" (136 : Nat) ({ cls := "RangeReckoner$Term", name := "isFull", desc := "()Z" } : MethodName) "RangeReckoner"), (Cond.methodLinkNest "RangeReckoner$Parser" (139 : Nat) ({ cls := "RangeReckoner$Term", name := "add", desc := "(IIII)V" } : MethodName) "RangeReckoner"), (Cond.methodLinkNest "RangeReckoner$Parser" (149 : Nat) ({ cls := "RangeReckoner$Term", name := "tellRange", desc := "(JJ)V" } : MethodName) "RangeReckoner"), (Cond.methodLinkNest "RangeReckoner$Parser" (117 : Nat) ({ cls := "RangeReckoner$Variables", name := "has", desc := "(I)Z" } : MethodName) "RangeReckoner"), (Cond.methodLinkNest "RangeReckoner$Parser" (123 : Nat) ({ cls := "RangeReckoner$Variables", name := "lowOf", desc := "(I)I" } : MethodName) "RangeReckoner"), (Cond.methodLinkNest "RangeReckoner$Variables" (40 : Nat) ({ cls := "RangeReckoner", name := "at", desc := "([II)I" } : MethodName) "RangeReckoner"), (Cond.methodLinkNest "RangeReckoner$Parser" (127 : Nat) ({ cls := "RangeReckoner$Variables", name := "highOf", desc := "(I)I" } : MethodName) "RangeReckoner"), (Cond.methodLinkNest "RangeReckoner$Parser" (133 : Nat) ({ cls := "RangeReckoner$Pending", name := "push", desc := "(II)V" } : MethodName) "RangeReckoner"), (Cond.methodLinkNest "RangeReckoner$Parser" (159 : Nat) ({ cls := "RangeReckoner", name := "strengthOf", desc := "(I)I" } : MethodName) "RangeReckoner"), (Cond.methodLinkNest "RangeReckoner$Parser" (169 : Nat) ({ cls := "RangeReckoner$Pending", name := "topStrength", desc := "()I" } : MethodName) "RangeReckoner"), (Cond.methodLinkNest "RangeReckoner$Pending" (36 : Nat) ({ cls := "RangeReckoner", name := "at", desc := "([II)I" } : MethodName) "RangeReckoner"), (Cond.methodLinkNest "RangeReckoner$Pending" (43 : Nat) ({ cls := "RangeReckoner", name := "strengthOf", desc := "(I)I" } : MethodName) "RangeReckoner"), (Cond.methodLinkNest "RangeReckoner$Parser" (173 : Nat) ({ cls := "RangeReckoner$Pending", name := "topCode", desc := "()I" } : MethodName) "RangeReckoner"), (Cond.methodLinkNest "RangeReckoner$Parser" (200 : Nat) ({ cls := "RangeReckoner$Pending", name := "topPlace", desc := "()I" } : MethodName) "RangeReckoner"), (Cond.methodLinkNest "RangeReckoner$Parser" (196 : Nat) ({ cls := "RangeReckoner$Pending", name := "pop", desc := "()V" } : MethodName) "RangeReckoner"), (Cond.methodLinkNest "RangeReckoner$Parser" (155 : Nat) ({ cls := "RangeReckoner", name := "at", desc := "([II)I" } : MethodName) "RangeReckoner"), (Cond.methodLinkNest "RangeReckoner$Parser" (206 : Nat) ({ cls := "RangeReckoner", name := "takesOne", desc := "(I)Z" } : MethodName) "RangeReckoner"), (Cond.methodLinkNest "RangeReckoner$Parser" (209 : Nat) ({ cls := "RangeReckoner$Term", name := "lowOf", desc := "(I)I" } : MethodName) "RangeReckoner"), (Cond.methodLinkNest "RangeReckoner$Term" (47 : Nat) ({ cls := "RangeReckoner", name := "at", desc := "([II)I" } : MethodName) "RangeReckoner"), (Cond.methodLinkNest "RangeReckoner$Parser" (210 : Nat) ({ cls := "RangeReckoner$Term", name := "highOf", desc := "(I)I" } : MethodName) "RangeReckoner"), (Cond.methodLinkNest "RangeReckoner$Parser" (235 : Nat) ({ cls := "RangeReckoner$Term", name := "kindOf", desc := "(I)I" } : MethodName) "RangeReckoner"), (Cond.methodLinkNest "RangeReckoner$Parser" (215 : Nat) ({ cls := "RangeReckoner", name := "divides", desc := "(I)Z" } : MethodName) "RangeReckoner"), (Cond.methodLinkNest "RangeReckoner$Parser" (218 : Nat) ({ cls := "RangeReckoner$Range", name := "hasZero", desc := "()Z" } : MethodName) "RangeReckoner"), (Cond.methodLinkNest "RangeReckoner$Parser" (221 : Nat) ({ cls := "RangeReckoner$Range", name := "reckon", desc := "(ILRangeReckoner$Range;LRangeReckoner$Range;)V" } : MethodName) "RangeReckoner"), (Cond.methodLinkNest "RangeReckoner$Parser" (225 : Nat) ({ cls := "RangeReckoner$Range", name := "isBeyond", desc := "()Z" } : MethodName) "RangeReckoner"), (Cond.methodLinkNest "RangeReckoner$Parser" (232 : Nat) ({ cls := "RangeReckoner$Term", name := "tellTaken", desc := "(II)V" } : MethodName) "RangeReckoner"), (Cond.methodLinkNest "RangeReckoner$Parser" (176 : Nat) ({ cls := "RangeReckoner$Pending", name := "topAwaited", desc := "()I" } : MethodName) "RangeReckoner"), (Cond.methodLinkNest "RangeReckoner$Parser" (179 : Nat) ({ cls := "RangeReckoner", name := "isFunction", desc := "(I)Z" } : MethodName) "RangeReckoner"), (Cond.methodLinkNest "RangeReckoner$Parser" (193 : Nat) ({ cls := "RangeReckoner$Pending", name := "cameNextTerm", desc := "()V" } : MethodName) "RangeReckoner"), (Cond.methodLinkNest "RangeReckoner" (61 : Nat) ({ cls := "RangeReckoner$Tape", name := "clear", desc := "()V" } : MethodName) "RangeReckoner"), (Cond.methodLinkNest "RangeReckoner" (64 : Nat) ({ cls := "RangeReckoner$Term", name := "has", desc := "(I)Z" } : MethodName) "RangeReckoner"), (Cond.methodLinkNest "RangeReckoner" (68 : Nat) ({ cls := "RangeReckoner$Term", name := "placeOf", desc := "(I)I" } : MethodName) "RangeReckoner"), (Cond.methodLinkNest "RangeReckoner" (72 : Nat) ({ cls := "RangeReckoner$Term", name := "kindOf", desc := "(I)I" } : MethodName) "RangeReckoner"), (Cond.methodLinkNest "RangeReckoner" (75 : Nat) ({ cls := "RangeReckoner$Term", name := "lowOf", desc := "(I)I" } : MethodName) "RangeReckoner"), (Cond.methodLinkNest "RangeReckoner" (78 : Nat) ({ cls := "RangeReckoner$Term", name := "highOf", desc := "(I)I" } : MethodName) "RangeReckoner"), (Cond.methodLinkNest "RangeReckoner" (98 : Nat) ({ cls := "RangeReckoner$Term", name := "depthOf", desc := "(I)I" } : MethodName) "RangeReckoner"), (Cond.methodLinkNest "RangeReckoner" (88 : Nat) ({ cls := "RangeReckoner$Term", name := "worthOf", desc := "(ILRangeReckoner$Variables;)J" } : MethodName) "RangeReckoner"), (Cond.methodLinkNest "RangeReckoner$Term" (80 : Nat) ({ cls := "RangeReckoner$Variables", name := "worthOf", desc := "(I)I" } : MethodName) "RangeReckoner")]
theorem xN_ok : ∀ w ∈ xN, zNest w = true := by decide +kernel
def xSlen : List Nat := [3, 3, 3, 21]
def xSbyt : List (List Int32) := [[109, 105, 110], [109, 97, 120], [97, 98, 115], [116, 104, 101, 114, 101, 32, 105, 115, 32, 110, 111, 32, 115, 117, 99, 104, 32, 112, 97, 114, 116]]
def xS (E : zE) (A : Nat → Prop) (U : State) : Prop := vk_S 4 xSlen xSbyt E.2.2.2.1 E.2.2.2.2 A U U.heap ∧ vk_R "RangeReckoner$Tokens" 60 "min" (E.2.2.2.1 0) U ∧ vk_R "RangeReckoner$Tokens" 66 "max" (E.2.2.2.1 1) U ∧ vk_R "RangeReckoner$Tokens" 68 "abs" (E.2.2.2.1 2) U ∧ vk_R "RangeReckoner" 83 "there is no such part" (E.2.2.2.1 3) U ∧ va_Z "java/lang/String" "COMPACT_STRINGS" "Z" (.int 1) A U U.heap ∧ va_Zq "jdk/internal/util/Preconditions" "SIOOBE_FORMATTER" "Ljava/util/function/BiFunction;" A U U.heap
def xGG (E : zE) (G : (Nat → Prop) → State → Prop) : Prop := zGr G ∧ ∀ (A : Nat → Prop) (U : State), G A U → xS E A U
abbrev zCx (p : Program) (s : State) (m : MethodId) (args : Array Value) (meth : Method) (c : Code) (E : zE) (G : (Nat → Prop) → State → Prop) (A : Nat → Prop) (d w : Nat) (cc : ByteArray) (nL : Nat) (own : String) : Prop := ZC p (zrm d w) s m args meth c cc nL zT own E xcl xN G A xX 0 0 s.heap
abbrev zGo (p : Program) (l : Launch) (e : Env) (s : State) (m : MethodId) (args : Array Value) (below : List Frame) (meth : Method) (c : Code) (E : zE) (A : Nat → Prop) (d w nL : Nat) (po : Option Value → zH → Prop) (h : zH) (pc : Nat) (lv : List (Option Value)) (st : List Value) : Prop := ZW p l e (zrm d w) s m args below meth c (MQ below (zQ xX E xcl A po) args s 0 0 A) xX E xcl A s.heap nL 0 0 h pc lv st
def zle : List (Option Value) → Nat → List (Option Value) → Prop
  | [], _, _ => True
  | none :: t, i, lv => zle t (i + 1) lv
  | some v :: t, i, lv => lv[i]? = some (some v) ∧ zle t (i + 1) lv
theorem zle_ok : ∀ (t : List (Option Value)) (b : Nat) (lv : List (Option Value)), zle t b lv → ∀ (i : Nat) (v : Value), t[i]? = some (some v) → lv[b + i]? = some (some v)
  | [], _, _, _, i, v, hv => by simp at hv
  | none :: t, b, lv, h, i, v, hv => by
    match i, hv with
    | 0, hv => simp at hv
    | i + 1, hv =>
      have := zle_ok t (b + 1) lv h i v (by simpa using hv)
      rw [show b + (i + 1) = b + 1 + i by omega]
      exact this
  | some w :: t, b, lv, h, i, v, hv => by
    match i, hv with
    | 0, hv =>
      simp only [List.getElem?_cons_zero, Option.some.injEq] at hv
      subst hv
      exact h.1
    | i + 1, hv =>
      have := zle_ok t (b + 1) lv h.2 i v (by simpa using hv)
      rw [show b + (i + 1) = b + 1 + i by omega]
      exact this
theorem z_le {p : Program} {l : Launch} {e : Env} {R : Room} {s : State} {m : MethodId} {args : Array Value} {below : List Frame} {meth : Method} {c : Code} {Q : State → Prop} {nL : Nat} {X : zX} {E : zE} {cl : List vw_C} {A : Nat → Prop} {kc ks : Nat} {h : zH} {pc : Nat} {lv lv2 : List (Option Value)} {st : List Value} (hl : zle lv2 0 lv) (k : ZW p l e R s m args below meth c Q X E cl A s.heap nL kc ks h pc lv2 st) : ZW p l e R s m args below meth c Q X E cl A s.heap nL kc ks h pc lv st :=
  z_sub (fun i v hv => by have := zle_ok lv2 0 lv hl i v hv; rwa [Nat.zero_add] at this) k
def y_A_appendWord : MethodName := ⟨cn_A, "appendWord", "(II)I"⟩
theorem pl_A_appendWord : y_A_appendWord.cls ≠ "java/lang/invoke/MethodHandle" ∧ y_A_appendWord.cls ≠ "java/lang/invoke/VarHandle" ∧ (parseMethodDescriptor y_A_appendWord.desc).map (fun d => d.parameters.length) = some 2 := by decide +kernel
def y_A_append : MethodName := ⟨cn_A, "append", "(II)Z"⟩
theorem pl_A_append : y_A_append.cls ≠ "java/lang/invoke/MethodHandle" ∧ y_A_append.cls ≠ "java/lang/invoke/VarHandle" ∧ (parseMethodDescriptor y_A_append.desc).map (fun d => d.parameters.length) = some 2 := by decide +kernel
def y_A_clear : MethodName := ⟨cn_A, "clear", "()V"⟩
theorem pl_A_clear : y_A_clear.cls ≠ "java/lang/invoke/MethodHandle" ∧ y_A_clear.cls ≠ "java/lang/invoke/VarHandle" ∧ (parseMethodDescriptor y_A_clear.desc).map (fun d => d.parameters.length) = some 0 := by decide +kernel
def y_R_at : MethodName := ⟨cn_R, "at", "([II)I"⟩
theorem pl_R_at : y_R_at.cls ≠ "java/lang/invoke/MethodHandle" ∧ y_R_at.cls ≠ "java/lang/invoke/VarHandle" ∧ (parseMethodDescriptor y_R_at.desc).map (fun d => d.parameters.length) = some 2 := by decide +kernel
def y_A_signAt : MethodName := ⟨cn_A, "signAt", "(I)I"⟩
theorem pl_A_signAt : y_A_signAt.cls ≠ "java/lang/invoke/MethodHandle" ∧ y_A_signAt.cls ≠ "java/lang/invoke/VarHandle" ∧ (parseMethodDescriptor y_A_signAt.desc).map (fun d => d.parameters.length) = some 1 := by decide +kernel
def y_G_cameNextTerm : MethodName := ⟨cn_G, "cameNextTerm", "()V"⟩
theorem pl_G_cameNextTerm : y_G_cameNextTerm.cls ≠ "java/lang/invoke/MethodHandle" ∧ y_G_cameNextTerm.cls ≠ "java/lang/invoke/VarHandle" ∧ (parseMethodDescriptor y_G_cameNextTerm.desc).map (fun d => d.parameters.length) = some 0 := by decide +kernel
def y_G_clear : MethodName := ⟨cn_G, "clear", "()V"⟩
theorem pl_G_clear : y_G_clear.cls ≠ "java/lang/invoke/MethodHandle" ∧ y_G_clear.cls ≠ "java/lang/invoke/VarHandle" ∧ (parseMethodDescriptor y_G_clear.desc).map (fun d => d.parameters.length) = some 0 := by decide +kernel
def y_G_nests : MethodName := ⟨cn_G, "nests", "(I)Z"⟩
theorem pl_G_nests : y_G_nests.cls ≠ "java/lang/invoke/MethodHandle" ∧ y_G_nests.cls ≠ "java/lang/invoke/VarHandle" ∧ (parseMethodDescriptor y_G_nests.desc).map (fun d => d.parameters.length) = some 1 := by decide +kernel
def y_G_topCode : MethodName := ⟨cn_G, "topCode", "()I"⟩
theorem pl_G_topCode : y_G_topCode.cls ≠ "java/lang/invoke/MethodHandle" ∧ y_G_topCode.cls ≠ "java/lang/invoke/VarHandle" ∧ (parseMethodDescriptor y_G_topCode.desc).map (fun d => d.parameters.length) = some 0 := by decide +kernel
def y_G_pop : MethodName := ⟨cn_G, "pop", "()V"⟩
theorem pl_G_pop : y_G_pop.cls ≠ "java/lang/invoke/MethodHandle" ∧ y_G_pop.cls ≠ "java/lang/invoke/VarHandle" ∧ (parseMethodDescriptor y_G_pop.desc).map (fun d => d.parameters.length) = some 0 := by decide +kernel
def y_G_push : MethodName := ⟨cn_G, "push", "(II)V"⟩
theorem pl_G_push : y_G_push.cls ≠ "java/lang/invoke/MethodHandle" ∧ y_G_push.cls ≠ "java/lang/invoke/VarHandle" ∧ (parseMethodDescriptor y_G_push.desc).map (fun d => d.parameters.length) = some 2 := by decide +kernel
def y_G_topAwaited : MethodName := ⟨cn_G, "topAwaited", "()I"⟩
theorem pl_G_topAwaited : y_G_topAwaited.cls ≠ "java/lang/invoke/MethodHandle" ∧ y_G_topAwaited.cls ≠ "java/lang/invoke/VarHandle" ∧ (parseMethodDescriptor y_G_topAwaited.desc).map (fun d => d.parameters.length) = some 0 := by decide +kernel
def y_G_topPlace : MethodName := ⟨cn_G, "topPlace", "()I"⟩
theorem pl_G_topPlace : y_G_topPlace.cls ≠ "java/lang/invoke/MethodHandle" ∧ y_G_topPlace.cls ≠ "java/lang/invoke/VarHandle" ∧ (parseMethodDescriptor y_G_topPlace.desc).map (fun d => d.parameters.length) = some 0 := by decide +kernel
def y_R_strengthOf : MethodName := ⟨cn_R, "strengthOf", "(I)I"⟩
theorem pl_R_strengthOf : y_R_strengthOf.cls ≠ "java/lang/invoke/MethodHandle" ∧ y_R_strengthOf.cls ≠ "java/lang/invoke/VarHandle" ∧ (parseMethodDescriptor y_R_strengthOf.desc).map (fun d => d.parameters.length) = some 1 := by decide +kernel
def y_G_topStrength : MethodName := ⟨cn_G, "topStrength", "()I"⟩
theorem pl_G_topStrength : y_G_topStrength.cls ≠ "java/lang/invoke/MethodHandle" ∧ y_G_topStrength.cls ≠ "java/lang/invoke/VarHandle" ∧ (parseMethodDescriptor y_G_topStrength.desc).map (fun d => d.parameters.length) = some 0 := by decide +kernel
def y_R_isDigit : MethodName := ⟨cn_R, "isDigit", "(I)Z"⟩
theorem pl_R_isDigit : y_R_isDigit.cls ≠ "java/lang/invoke/MethodHandle" ∧ y_R_isDigit.cls ≠ "java/lang/invoke/VarHandle" ∧ (parseMethodDescriptor y_R_isDigit.desc).map (fun d => d.parameters.length) = some 1 := by decide +kernel
def y_K_readDigits : MethodName := ⟨cn_K, "readDigits", "()V"⟩
theorem pl_K_readDigits : y_K_readDigits.cls ≠ "java/lang/invoke/MethodHandle" ∧ y_K_readDigits.cls ≠ "java/lang/invoke/VarHandle" ∧ (parseMethodDescriptor y_K_readDigits.desc).map (fun d => d.parameters.length) = some 0 := by decide +kernel
def y_K_doubleMark : MethodName := ⟨cn_K, "doubleMark", "(II)I"⟩
theorem pl_K_doubleMark : y_K_doubleMark.cls ≠ "java/lang/invoke/MethodHandle" ∧ y_K_doubleMark.cls ≠ "java/lang/invoke/VarHandle" ∧ (parseMethodDescriptor y_K_doubleMark.desc).map (fun d => d.parameters.length) = some 2 := by decide +kernel
def y_K_singleMark : MethodName := ⟨cn_K, "singleMark", "(I)I"⟩
theorem pl_K_singleMark : y_K_singleMark.cls ≠ "java/lang/invoke/MethodHandle" ∧ y_K_singleMark.cls ≠ "java/lang/invoke/VarHandle" ∧ (parseMethodDescriptor y_K_singleMark.desc).map (fun d => d.parameters.length) = some 1 := by decide +kernel
def y_K_readMark : MethodName := ⟨cn_K, "readMark", "()V"⟩
theorem pl_K_readMark : y_K_readMark.cls ≠ "java/lang/invoke/MethodHandle" ∧ y_K_readMark.cls ≠ "java/lang/invoke/VarHandle" ∧ (parseMethodDescriptor y_K_readMark.desc).map (fun d => d.parameters.length) = some 0 := by decide +kernel
def y_K_readVariable : MethodName := ⟨cn_K, "readVariable", "()V"⟩
theorem pl_K_readVariable : y_K_readVariable.cls ≠ "java/lang/invoke/MethodHandle" ∧ y_K_readVariable.cls ≠ "java/lang/invoke/VarHandle" ∧ (parseMethodDescriptor y_K_readVariable.desc).map (fun d => d.parameters.length) = some 0 := by decide +kernel
def y_K_readWord : MethodName := ⟨cn_K, "readWord", "()V"⟩
theorem pl_K_readWord : y_K_readWord.cls ≠ "java/lang/invoke/MethodHandle" ∧ y_K_readWord.cls ≠ "java/lang/invoke/VarHandle" ∧ (parseMethodDescriptor y_K_readWord.desc).map (fun d => d.parameters.length) = some 0 := by decide +kernel
def y_K_skipSpaces : MethodName := ⟨cn_K, "skipSpaces", "()V"⟩
theorem pl_K_skipSpaces : y_K_skipSpaces.cls ≠ "java/lang/invoke/MethodHandle" ∧ y_K_skipSpaces.cls ≠ "java/lang/invoke/VarHandle" ∧ (parseMethodDescriptor y_K_skipSpaces.desc).map (fun d => d.parameters.length) = some 0 := by decide +kernel
def y_K_advance : MethodName := ⟨cn_K, "advance", "()V"⟩
theorem pl_K_advance : y_K_advance.cls ≠ "java/lang/invoke/MethodHandle" ∧ y_K_advance.cls ≠ "java/lang/invoke/VarHandle" ∧ (parseMethodDescriptor y_K_advance.desc).map (fun d => d.parameters.length) = some 0 := by decide +kernel
def y_K_restart : MethodName := ⟨cn_K, "restart", "()V"⟩
theorem pl_K_restart : y_K_restart.cls ≠ "java/lang/invoke/MethodHandle" ∧ y_K_restart.cls ≠ "java/lang/invoke/VarHandle" ∧ (parseMethodDescriptor y_K_restart.desc).map (fun d => d.parameters.length) = some 0 := by decide +kernel
def y_M_at : MethodName := ⟨cn_M, "at", "(I)I"⟩
theorem pl_M_at : y_M_at.cls ≠ "java/lang/invoke/MethodHandle" ∧ y_M_at.cls ≠ "java/lang/invoke/VarHandle" ∧ (parseMethodDescriptor y_M_at.desc).map (fun d => d.parameters.length) = some 1 := by decide +kernel
def y_M_bad : MethodName := ⟨cn_M, "bad", "(II)V"⟩
theorem pl_M_bad : y_M_bad.cls ≠ "java/lang/invoke/MethodHandle" ∧ y_M_bad.cls ≠ "java/lang/invoke/VarHandle" ∧ (parseMethodDescriptor y_M_bad.desc).map (fun d => d.parameters.length) = some 2 := by decide +kernel
def y_M_hold : MethodName := ⟨cn_M, "hold", "(II)V"⟩
theorem pl_M_hold : y_M_hold.cls ≠ "java/lang/invoke/MethodHandle" ∧ y_M_hold.cls ≠ "java/lang/invoke/VarHandle" ∧ (parseMethodDescriptor y_M_hold.desc).map (fun d => d.parameters.length) = some 2 := by decide +kernel
def y_M_enter : MethodName := ⟨cn_M, "enter", "(I)V"⟩
theorem pl_M_enter : y_M_enter.cls ≠ "java/lang/invoke/MethodHandle" ∧ y_M_enter.cls ≠ "java/lang/invoke/VarHandle" ∧ (parseMethodDescriptor y_M_enter.desc).map (fun d => d.parameters.length) = some 1 := by decide +kernel
def y_M_isDigit : MethodName := ⟨cn_M, "isDigit", "(I)Z"⟩
theorem pl_M_isDigit : y_M_isDigit.cls ≠ "java/lang/invoke/MethodHandle" ∧ y_M_isDigit.cls ≠ "java/lang/invoke/VarHandle" ∧ (parseMethodDescriptor y_M_isDigit.desc).map (fun d => d.parameters.length) = some 1 := by decide +kernel
def y_M_stands : MethodName := ⟨cn_M, "stands", "(III)Z"⟩
theorem pl_M_stands : y_M_stands.cls ≠ "java/lang/invoke/MethodHandle" ∧ y_M_stands.cls ≠ "java/lang/invoke/VarHandle" ∧ (parseMethodDescriptor y_M_stands.desc).map (fun d => d.parameters.length) = some 3 := by decide +kernel
def y_M_next : MethodName := ⟨cn_M, "next", "()V"⟩
theorem pl_M_next : y_M_next.cls ≠ "java/lang/invoke/MethodHandle" ∧ y_M_next.cls ≠ "java/lang/invoke/VarHandle" ∧ (parseMethodDescriptor y_M_next.desc).map (fun d => d.parameters.length) = some 0 := by decide +kernel
def y_M_part5 : MethodName := ⟨cn_M, "part", "(IIIJJ)I"⟩
theorem pl_M_part5 : y_M_part5.cls ≠ "java/lang/invoke/MethodHandle" ∧ y_M_part5.cls ≠ "java/lang/invoke/VarHandle" ∧ (parseMethodDescriptor y_M_part5.desc).map (fun d => d.parameters.length) = some 5 := by decide +kernel
def y_M_push : MethodName := ⟨cn_M, "push", "(I)V"⟩
theorem pl_M_push : y_M_push.cls ≠ "java/lang/invoke/MethodHandle" ∧ y_M_push.cls ≠ "java/lang/invoke/VarHandle" ∧ (parseMethodDescriptor y_M_push.desc).map (fun d => d.parameters.length) = some 1 := by decide +kernel
def y_M_begins : MethodName := ⟨cn_M, "begins", "()Z"⟩
theorem pl_M_begins : y_M_begins.cls ≠ "java/lang/invoke/MethodHandle" ∧ y_M_begins.cls ≠ "java/lang/invoke/VarHandle" ∧ (parseMethodDescriptor y_M_begins.desc).map (fun d => d.parameters.length) = some 0 := by decide +kernel
def y_M_count : MethodName := ⟨cn_M, "count", "(I)I"⟩
theorem pl_M_count : y_M_count.cls ≠ "java/lang/invoke/MethodHandle" ∧ y_M_count.cls ≠ "java/lang/invoke/VarHandle" ∧ (parseMethodDescriptor y_M_count.desc).map (fun d => d.parameters.length) = some 1 := by decide +kernel
def y_M_greater : MethodName := ⟨cn_M, "greater", "(JJ)J"⟩
theorem pl_M_greater : y_M_greater.cls ≠ "java/lang/invoke/MethodHandle" ∧ y_M_greater.cls ≠ "java/lang/invoke/VarHandle" ∧ (parseMethodDescriptor y_M_greater.desc).map (fun d => d.parameters.length) = some 2 := by decide +kernel
def y_M_lesser : MethodName := ⟨cn_M, "lesser", "(JJ)J"⟩
theorem pl_M_lesser : y_M_lesser.cls ≠ "java/lang/invoke/MethodHandle" ∧ y_M_lesser.cls ≠ "java/lang/invoke/VarHandle" ∧ (parseMethodDescriptor y_M_lesser.desc).map (fun d => d.parameters.length) = some 2 := by decide +kernel
def y_M_ends : MethodName := ⟨cn_M, "ends", "(JJJJ)V"⟩
theorem pl_M_ends : y_M_ends.cls ≠ "java/lang/invoke/MethodHandle" ∧ y_M_ends.cls ≠ "java/lang/invoke/VarHandle" ∧ (parseMethodDescriptor y_M_ends.desc).map (fun d => d.parameters.length) = some 4 := by decide +kernel
def y_M_pop : MethodName := ⟨cn_M, "pop", "()I"⟩
theorem pl_M_pop : y_M_pop.cls ≠ "java/lang/invoke/MethodHandle" ∧ y_M_pop.cls ≠ "java/lang/invoke/VarHandle" ∧ (parseMethodDescriptor y_M_pop.desc).map (fun d => d.parameters.length) = some 0 := by decide +kernel
def y_M_rank : MethodName := ⟨cn_M, "rank", "(I)I"⟩
theorem pl_M_rank : y_M_rank.cls ≠ "java/lang/invoke/MethodHandle" ∧ y_M_rank.cls ≠ "java/lang/invoke/VarHandle" ∧ (parseMethodDescriptor y_M_rank.desc).map (fun d => d.parameters.length) = some 1 := by decide +kernel
def y_M_size : MethodName := ⟨cn_M, "size", "(J)J"⟩
theorem pl_M_size : y_M_size.cls ≠ "java/lang/invoke/MethodHandle" ∧ y_M_size.cls ≠ "java/lang/invoke/VarHandle" ∧ (parseMethodDescriptor y_M_size.desc).map (fun d => d.parameters.length) = some 1 := by decide +kernel
def y_M_doTwo : MethodName := ⟨cn_M, "doTwo", "(II)V"⟩
theorem pl_M_doTwo : y_M_doTwo.cls ≠ "java/lang/invoke/MethodHandle" ∧ y_M_doTwo.cls ≠ "java/lang/invoke/VarHandle" ∧ (parseMethodDescriptor y_M_doTwo.desc).map (fun d => d.parameters.length) = some 2 := by decide +kernel
def y_M_topOp : MethodName := ⟨cn_M, "topOp", "()I"⟩
theorem pl_M_topOp : y_M_topOp.cls ≠ "java/lang/invoke/MethodHandle" ∧ y_M_topOp.cls ≠ "java/lang/invoke/VarHandle" ∧ (parseMethodDescriptor y_M_topOp.desc).map (fun d => d.parameters.length) = some 0 := by decide +kernel
def y_M_doAll : MethodName := ⟨cn_M, "doAll", "(I)V"⟩
theorem pl_M_doAll : y_M_doAll.cls ≠ "java/lang/invoke/MethodHandle" ∧ y_M_doAll.cls ≠ "java/lang/invoke/VarHandle" ∧ (parseMethodDescriptor y_M_doAll.desc).map (fun d => d.parameters.length) = some 1 := by decide +kernel
def y_M_doChoice : MethodName := ⟨cn_M, "doChoice", "(I)V"⟩
theorem pl_M_doChoice : y_M_doChoice.cls ≠ "java/lang/invoke/MethodHandle" ∧ y_M_doChoice.cls ≠ "java/lang/invoke/VarHandle" ∧ (parseMethodDescriptor y_M_doChoice.desc).map (fun d => d.parameters.length) = some 1 := by decide +kernel
def y_M_doOne : MethodName := ⟨cn_M, "doOne", "(II)V"⟩
theorem pl_M_doOne : y_M_doOne.cls ≠ "java/lang/invoke/MethodHandle" ∧ y_M_doOne.cls ≠ "java/lang/invoke/VarHandle" ∧ (parseMethodDescriptor y_M_doOne.desc).map (fun d => d.parameters.length) = some 2 := by decide +kernel
def y_M_sign : MethodName := ⟨cn_M, "sign", "(III)I"⟩
theorem pl_M_sign : y_M_sign.cls ≠ "java/lang/invoke/MethodHandle" ∧ y_M_sign.cls ≠ "java/lang/invoke/VarHandle" ∧ (parseMethodDescriptor y_M_sign.desc).map (fun d => d.parameters.length) = some 3 := by decide +kernel
def y_M_feed : MethodName := ⟨cn_M, "feed", "(II)I"⟩
theorem pl_M_feed : y_M_feed.cls ≠ "java/lang/invoke/MethodHandle" ∧ y_M_feed.cls ≠ "java/lang/invoke/VarHandle" ∧ (parseMethodDescriptor y_M_feed.desc).map (fun d => d.parameters.length) = some 2 := by decide +kernel
def y_M_give : MethodName := ⟨cn_M, "give", "(II)Z"⟩
theorem pl_M_give : y_M_give.cls ≠ "java/lang/invoke/MethodHandle" ∧ y_M_give.cls ≠ "java/lang/invoke/VarHandle" ∧ (parseMethodDescriptor y_M_give.desc).map (fun d => d.parameters.length) = some 2 := by decide +kernel
def y_M_termEnds : MethodName := ⟨cn_M, "termEnds", "()V"⟩
theorem pl_M_termEnds : y_M_termEnds.cls ≠ "java/lang/invoke/MethodHandle" ∧ y_M_termEnds.cls ≠ "java/lang/invoke/VarHandle" ∧ (parseMethodDescriptor y_M_termEnds.desc).map (fun d => d.parameters.length) = some 0 := by decide +kernel
def y_M_termFault : MethodName := ⟨cn_M, "termFault", "()V"⟩
theorem pl_M_termFault : y_M_termFault.cls ≠ "java/lang/invoke/MethodHandle" ∧ y_M_termFault.cls ≠ "java/lang/invoke/VarHandle" ∧ (parseMethodDescriptor y_M_termFault.desc).map (fun d => d.parameters.length) = some 0 := by decide +kernel
def y_M_wasRead : MethodName := ⟨cn_M, "wasRead", "()V"⟩
theorem pl_M_wasRead : y_M_wasRead.cls ≠ "java/lang/invoke/MethodHandle" ∧ y_M_wasRead.cls ≠ "java/lang/invoke/VarHandle" ∧ (parseMethodDescriptor y_M_wasRead.desc).map (fun d => d.parameters.length) = some 0 := by decide +kernel
def y_M_goesOn : MethodName := ⟨cn_M, "goesOn", "()Z"⟩
theorem pl_M_goesOn : y_M_goesOn.cls ≠ "java/lang/invoke/MethodHandle" ∧ y_M_goesOn.cls ≠ "java/lang/invoke/VarHandle" ∧ (parseMethodDescriptor y_M_goesOn.desc).map (fun d => d.parameters.length) = some 0 := by decide +kernel
def y_M_part : MethodName := ⟨cn_M, "part", "(II)I"⟩
theorem pl_M_part : y_M_part.cls ≠ "java/lang/invoke/MethodHandle" ∧ y_M_part.cls ≠ "java/lang/invoke/VarHandle" ∧ (parseMethodDescriptor y_M_part.desc).map (fun d => d.parameters.length) = some 2 := by decide +kernel
def y_M_take : MethodName := ⟨cn_M, "take", "()I"⟩
theorem pl_M_take : y_M_take.cls ≠ "java/lang/invoke/MethodHandle" ∧ y_M_take.cls ≠ "java/lang/invoke/VarHandle" ∧ (parseMethodDescriptor y_M_take.desc).map (fun d => d.parameters.length) = some 0 := by decide +kernel
def y_M_thrown : MethodName := ⟨cn_M, "thrown", "()I"⟩
theorem pl_M_thrown : y_M_thrown.cls ≠ "java/lang/invoke/MethodHandle" ∧ y_M_thrown.cls ≠ "java/lang/invoke/VarHandle" ∧ (parseMethodDescriptor y_M_thrown.desc).map (fun d => d.parameters.length) = some 0 := by decide +kernel
def y_M_truth : MethodName := ⟨cn_M, "truth", "(Z)J"⟩
theorem pl_M_truth : y_M_truth.cls ≠ "java/lang/invoke/MethodHandle" ∧ y_M_truth.cls ≠ "java/lang/invoke/VarHandle" ∧ (parseMethodDescriptor y_M_truth.desc).map (fun d => d.parameters.length) = some 1 := by decide +kernel
def y_M_worthOf : MethodName := ⟨cn_M, "worthOf", "(I)J"⟩
theorem pl_M_worthOf : y_M_worthOf.cls ≠ "java/lang/invoke/MethodHandle" ∧ y_M_worthOf.cls ≠ "java/lang/invoke/VarHandle" ∧ (parseMethodDescriptor y_M_worthOf.desc).map (fun d => d.parameters.length) = some 1 := by decide +kernel
def y_M_value : MethodName := ⟨cn_M, "value", "(I)J"⟩
theorem pl_M_value : y_M_value.cls ≠ "java/lang/invoke/MethodHandle" ∧ y_M_value.cls ≠ "java/lang/invoke/VarHandle" ∧ (parseMethodDescriptor y_M_value.desc).map (fun d => d.parameters.length) = some 1 := by decide +kernel
def y_M_variable : MethodName := ⟨cn_M, "variable", "(II)I"⟩
theorem pl_M_variable : y_M_variable.cls ≠ "java/lang/invoke/MethodHandle" ∧ y_M_variable.cls ≠ "java/lang/invoke/VarHandle" ∧ (parseMethodDescriptor y_M_variable.desc).map (fun d => d.parameters.length) = some 2 := by decide +kernel
def y_M_width : MethodName := ⟨cn_M, "width", "()J"⟩
theorem pl_M_width : y_M_width.cls ≠ "java/lang/invoke/MethodHandle" ∧ y_M_width.cls ≠ "java/lang/invoke/VarHandle" ∧ (parseMethodDescriptor y_M_width.desc).map (fun d => d.parameters.length) = some 0 := by decide +kernel
def y_N_cover : MethodName := ⟨cn_N, "cover", "(JJJJ)V"⟩
theorem pl_N_cover : y_N_cover.cls ≠ "java/lang/invoke/MethodHandle" ∧ y_N_cover.cls ≠ "java/lang/invoke/VarHandle" ∧ (parseMethodDescriptor y_N_cover.desc).map (fun d => d.parameters.length) = some 4 := by decide +kernel
def y_N_hasZero : MethodName := ⟨cn_N, "hasZero", "()Z"⟩
theorem pl_N_hasZero : y_N_hasZero.cls ≠ "java/lang/invoke/MethodHandle" ∧ y_N_hasZero.cls ≠ "java/lang/invoke/VarHandle" ∧ (parseMethodDescriptor y_N_hasZero.desc).map (fun d => d.parameters.length) = some 0 := by decide +kernel
def y_N_isBeyond : MethodName := ⟨cn_N, "isBeyond", "()Z"⟩
theorem pl_N_isBeyond : y_N_isBeyond.cls ≠ "java/lang/invoke/MethodHandle" ∧ y_N_isBeyond.cls ≠ "java/lang/invoke/VarHandle" ∧ (parseMethodDescriptor y_N_isBeyond.desc).map (fun d => d.parameters.length) = some 0 := by decide +kernel
def y_N_put : MethodName := ⟨cn_N, "put", "(JJ)V"⟩
theorem pl_N_put : y_N_put.cls ≠ "java/lang/invoke/MethodHandle" ∧ y_N_put.cls ≠ "java/lang/invoke/VarHandle" ∧ (parseMethodDescriptor y_N_put.desc).map (fun d => d.parameters.length) = some 2 := by decide +kernel
def y_N_reckonRest : MethodName := ⟨cn_N, "reckonRest", "(LRangeReckoner$Range;LRangeReckoner$Range;)V"⟩
theorem pl_N_reckonRest : y_N_reckonRest.cls ≠ "java/lang/invoke/MethodHandle" ∧ y_N_reckonRest.cls ≠ "java/lang/invoke/VarHandle" ∧ (parseMethodDescriptor y_N_reckonRest.desc).map (fun d => d.parameters.length) = some 2 := by decide +kernel
def y_N_reckonSize : MethodName := ⟨cn_N, "reckonSize", "(LRangeReckoner$Range;)V"⟩
theorem pl_N_reckonSize : y_N_reckonSize.cls ≠ "java/lang/invoke/MethodHandle" ∧ y_N_reckonSize.cls ≠ "java/lang/invoke/VarHandle" ∧ (parseMethodDescriptor y_N_reckonSize.desc).map (fun d => d.parameters.length) = some 1 := by decide +kernel
def y_N_reckon : MethodName := ⟨cn_N, "reckon", "(ILRangeReckoner$Range;LRangeReckoner$Range;)V"⟩
theorem pl_N_reckon : y_N_reckon.cls ≠ "java/lang/invoke/MethodHandle" ∧ y_N_reckon.cls ≠ "java/lang/invoke/VarHandle" ∧ (parseMethodDescriptor y_N_reckon.desc).map (fun d => d.parameters.length) = some 3 := by decide +kernel
def y_P_blame : MethodName := ⟨cn_P, "blame", "(II)V"⟩
theorem pl_P_blame : y_P_blame.cls ≠ "java/lang/invoke/MethodHandle" ∧ y_P_blame.cls ≠ "java/lang/invoke/VarHandle" ∧ (parseMethodDescriptor y_P_blame.desc).map (fun d => d.parameters.length) = some 2 := by decide +kernel
def y_T_isFull : MethodName := ⟨cn_T, "isFull", "()Z"⟩
theorem pl_T_isFull : y_T_isFull.cls ≠ "java/lang/invoke/MethodHandle" ∧ y_T_isFull.cls ≠ "java/lang/invoke/VarHandle" ∧ (parseMethodDescriptor y_T_isFull.desc).map (fun d => d.parameters.length) = some 0 := by decide +kernel
def y_T_add : MethodName := ⟨cn_T, "add", "(IIII)V"⟩
theorem pl_T_add : y_T_add.cls ≠ "java/lang/invoke/MethodHandle" ∧ y_T_add.cls ≠ "java/lang/invoke/VarHandle" ∧ (parseMethodDescriptor y_T_add.desc).map (fun d => d.parameters.length) = some 4 := by decide +kernel
def y_T_has : MethodName := ⟨cn_T, "has", "(I)Z"⟩
theorem pl_T_has : y_T_has.cls ≠ "java/lang/invoke/MethodHandle" ∧ y_T_has.cls ≠ "java/lang/invoke/VarHandle" ∧ (parseMethodDescriptor y_T_has.desc).map (fun d => d.parameters.length) = some 1 := by decide +kernel
def y_T_tellRange : MethodName := ⟨cn_T, "tellRange", "(JJ)V"⟩
theorem pl_T_tellRange : y_T_tellRange.cls ≠ "java/lang/invoke/MethodHandle" ∧ y_T_tellRange.cls ≠ "java/lang/invoke/VarHandle" ∧ (parseMethodDescriptor y_T_tellRange.desc).map (fun d => d.parameters.length) = some 2 := by decide +kernel
def y_P_addPart : MethodName := ⟨cn_P, "addPart", "(IIII)V"⟩
theorem pl_P_addPart : y_P_addPart.cls ≠ "java/lang/invoke/MethodHandle" ∧ y_P_addPart.cls ≠ "java/lang/invoke/VarHandle" ∧ (parseMethodDescriptor y_P_addPart.desc).map (fun d => d.parameters.length) = some 4 := by decide +kernel
def y_T_kindOf : MethodName := ⟨cn_T, "kindOf", "(I)I"⟩
theorem pl_T_kindOf : y_T_kindOf.cls ≠ "java/lang/invoke/MethodHandle" ∧ y_T_kindOf.cls ≠ "java/lang/invoke/VarHandle" ∧ (parseMethodDescriptor y_T_kindOf.desc).map (fun d => d.parameters.length) = some 1 := by decide +kernel
def y_P_kindGiven : MethodName := ⟨cn_P, "kindGiven", "(II)I"⟩
theorem pl_P_kindGiven : y_P_kindGiven.cls ≠ "java/lang/invoke/MethodHandle" ∧ y_P_kindGiven.cls ≠ "java/lang/invoke/VarHandle" ∧ (parseMethodDescriptor y_P_kindGiven.desc).map (fun d => d.parameters.length) = some 2 := by decide +kernel
def y_P_kindsFit : MethodName := ⟨cn_P, "kindsFit", "(IIII)Z"⟩
theorem pl_P_kindsFit : y_P_kindsFit.cls ≠ "java/lang/invoke/MethodHandle" ∧ y_P_kindsFit.cls ≠ "java/lang/invoke/VarHandle" ∧ (parseMethodDescriptor y_P_kindsFit.desc).map (fun d => d.parameters.length) = some 4 := by decide +kernel
def y_P_popLoose : MethodName := ⟨cn_P, "popLoose", "()I"⟩
theorem pl_P_popLoose : y_P_popLoose.cls ≠ "java/lang/invoke/MethodHandle" ∧ y_P_popLoose.cls ≠ "java/lang/invoke/VarHandle" ∧ (parseMethodDescriptor y_P_popLoose.desc).map (fun d => d.parameters.length) = some 0 := by decide +kernel
def y_R_divides : MethodName := ⟨cn_R, "divides", "(I)Z"⟩
theorem pl_R_divides : y_R_divides.cls ≠ "java/lang/invoke/MethodHandle" ∧ y_R_divides.cls ≠ "java/lang/invoke/VarHandle" ∧ (parseMethodDescriptor y_R_divides.desc).map (fun d => d.parameters.length) = some 1 := by decide +kernel
def y_R_takesOne : MethodName := ⟨cn_R, "takesOne", "(I)Z"⟩
theorem pl_R_takesOne : y_R_takesOne.cls ≠ "java/lang/invoke/MethodHandle" ∧ y_R_takesOne.cls ≠ "java/lang/invoke/VarHandle" ∧ (parseMethodDescriptor y_R_takesOne.desc).map (fun d => d.parameters.length) = some 1 := by decide +kernel
def y_T_highOf : MethodName := ⟨cn_T, "highOf", "(I)I"⟩
theorem pl_T_highOf : y_T_highOf.cls ≠ "java/lang/invoke/MethodHandle" ∧ y_T_highOf.cls ≠ "java/lang/invoke/VarHandle" ∧ (parseMethodDescriptor y_T_highOf.desc).map (fun d => d.parameters.length) = some 1 := by decide +kernel
def y_T_lowOf : MethodName := ⟨cn_T, "lowOf", "(I)I"⟩
theorem pl_T_lowOf : y_T_lowOf.cls ≠ "java/lang/invoke/MethodHandle" ∧ y_T_lowOf.cls ≠ "java/lang/invoke/VarHandle" ∧ (parseMethodDescriptor y_T_lowOf.desc).map (fun d => d.parameters.length) = some 1 := by decide +kernel
def y_T_depthOf : MethodName := ⟨cn_T, "depthOf", "(I)I"⟩
theorem pl_T_depthOf : y_T_depthOf.cls ≠ "java/lang/invoke/MethodHandle" ∧ y_T_depthOf.cls ≠ "java/lang/invoke/VarHandle" ∧ (parseMethodDescriptor y_T_depthOf.desc).map (fun d => d.parameters.length) = some 1 := by decide +kernel
def y_T_tellTaken : MethodName := ⟨cn_T, "tellTaken", "(II)V"⟩
theorem pl_T_tellTaken : y_T_tellTaken.cls ≠ "java/lang/invoke/MethodHandle" ∧ y_T_tellTaken.cls ≠ "java/lang/invoke/VarHandle" ∧ (parseMethodDescriptor y_T_tellTaken.desc).map (fun d => d.parameters.length) = some 2 := by decide +kernel
def y_P_combine : MethodName := ⟨cn_P, "combine", "()V"⟩
theorem pl_P_combine : y_P_combine.cls ≠ "java/lang/invoke/MethodHandle" ∧ y_P_combine.cls ≠ "java/lang/invoke/VarHandle" ∧ (parseMethodDescriptor y_P_combine.desc).map (fun d => d.parameters.length) = some 0 := by decide +kernel
def y_P_tokenDue : MethodName := ⟨cn_P, "tokenDue", "(IZ)I"⟩
theorem pl_P_tokenDue : y_P_tokenDue.cls ≠ "java/lang/invoke/MethodHandle" ∧ y_P_tokenDue.cls ≠ "java/lang/invoke/VarHandle" ∧ (parseMethodDescriptor y_P_tokenDue.desc).map (fun d => d.parameters.length) = some 2 := by decide +kernel
def y_P_readBehindTerm : MethodName := ⟨cn_P, "readBehindTerm", "(IZ)V"⟩
theorem pl_P_readBehindTerm : y_P_readBehindTerm.cls ≠ "java/lang/invoke/MethodHandle" ∧ y_P_readBehindTerm.cls ≠ "java/lang/invoke/VarHandle" ∧ (parseMethodDescriptor y_P_readBehindTerm.desc).map (fun d => d.parameters.length) = some 2 := by decide +kernel
def y_P_settle : MethodName := ⟨cn_P, "settle", "(I)V"⟩
theorem pl_P_settle : y_P_settle.cls ≠ "java/lang/invoke/MethodHandle" ∧ y_P_settle.cls ≠ "java/lang/invoke/VarHandle" ∧ (parseMethodDescriptor y_P_settle.desc).map (fun d => d.parameters.length) = some 1 := by decide +kernel
def y_R_isFunction : MethodName := ⟨cn_R, "isFunction", "(I)Z"⟩
theorem pl_R_isFunction : y_R_isFunction.cls ≠ "java/lang/invoke/MethodHandle" ∧ y_R_isFunction.cls ≠ "java/lang/invoke/VarHandle" ∧ (parseMethodDescriptor y_R_isFunction.desc).map (fun d => d.parameters.length) = some 1 := by decide +kernel
def y_P_endTerm : MethodName := ⟨cn_P, "endTerm", "()V"⟩
theorem pl_P_endTerm : y_P_endTerm.cls ≠ "java/lang/invoke/MethodHandle" ∧ y_P_endTerm.cls ≠ "java/lang/invoke/VarHandle" ∧ (parseMethodDescriptor y_P_endTerm.desc).map (fun d => d.parameters.length) = some 0 := by decide +kernel
def y_P_leastSettledBy : MethodName := ⟨cn_P, "leastSettledBy", "(I)I"⟩
theorem pl_P_leastSettledBy : y_P_leastSettledBy.cls ≠ "java/lang/invoke/MethodHandle" ∧ y_P_leastSettledBy.cls ≠ "java/lang/invoke/VarHandle" ∧ (parseMethodDescriptor y_P_leastSettledBy.desc).map (fun d => d.parameters.length) = some 1 := by decide +kernel
def y_P_nest : MethodName := ⟨cn_P, "nest", "(II)V"⟩
theorem pl_P_nest : y_P_nest.cls ≠ "java/lang/invoke/MethodHandle" ∧ y_P_nest.cls ≠ "java/lang/invoke/VarHandle" ∧ (parseMethodDescriptor y_P_nest.desc).map (fun d => d.parameters.length) = some 2 := by decide +kernel
def y_P_goesOn : MethodName := ⟨cn_P, "goesOn", "()Z"⟩
theorem pl_P_goesOn : y_P_goesOn.cls ≠ "java/lang/invoke/MethodHandle" ∧ y_P_goesOn.cls ≠ "java/lang/invoke/VarHandle" ∧ (parseMethodDescriptor y_P_goesOn.desc).map (fun d => d.parameters.length) = some 0 := by decide +kernel
def y_P_readBracket : MethodName := ⟨cn_P, "readBracket", "()V"⟩
theorem pl_P_readBracket : y_P_readBracket.cls ≠ "java/lang/invoke/MethodHandle" ∧ y_P_readBracket.cls ≠ "java/lang/invoke/VarHandle" ∧ (parseMethodDescriptor y_P_readBracket.desc).map (fun d => d.parameters.length) = some 0 := by decide +kernel
def y_V_has : MethodName := ⟨cn_V, "has", "(I)Z"⟩
theorem pl_V_has : y_V_has.cls ≠ "java/lang/invoke/MethodHandle" ∧ y_V_has.cls ≠ "java/lang/invoke/VarHandle" ∧ (parseMethodDescriptor y_V_has.desc).map (fun d => d.parameters.length) = some 1 := by decide +kernel
def y_V_highOf : MethodName := ⟨cn_V, "highOf", "(I)I"⟩
theorem pl_V_highOf : y_V_highOf.cls ≠ "java/lang/invoke/MethodHandle" ∧ y_V_highOf.cls ≠ "java/lang/invoke/VarHandle" ∧ (parseMethodDescriptor y_V_highOf.desc).map (fun d => d.parameters.length) = some 1 := by decide +kernel
def y_V_lowOf : MethodName := ⟨cn_V, "lowOf", "(I)I"⟩
theorem pl_V_lowOf : y_V_lowOf.cls ≠ "java/lang/invoke/MethodHandle" ∧ y_V_lowOf.cls ≠ "java/lang/invoke/VarHandle" ∧ (parseMethodDescriptor y_V_lowOf.desc).map (fun d => d.parameters.length) = some 1 := by decide +kernel
def y_P_readVariable : MethodName := ⟨cn_P, "readVariable", "()V"⟩
theorem pl_P_readVariable : y_P_readVariable.cls ≠ "java/lang/invoke/MethodHandle" ∧ y_P_readVariable.cls ≠ "java/lang/invoke/VarHandle" ∧ (parseMethodDescriptor y_P_readVariable.desc).map (fun d => d.parameters.length) = some 0 := by decide +kernel
def y_P_readOperand : MethodName := ⟨cn_P, "readOperand", "()V"⟩
theorem pl_P_readOperand : y_P_readOperand.cls ≠ "java/lang/invoke/MethodHandle" ∧ y_P_readOperand.cls ≠ "java/lang/invoke/VarHandle" ∧ (parseMethodDescriptor y_P_readOperand.desc).map (fun d => d.parameters.length) = some 0 := by decide +kernel
def y_T_clear : MethodName := ⟨cn_T, "clear", "()V"⟩
theorem pl_T_clear : y_T_clear.cls ≠ "java/lang/invoke/MethodHandle" ∧ y_T_clear.cls ≠ "java/lang/invoke/VarHandle" ∧ (parseMethodDescriptor y_T_clear.desc).map (fun d => d.parameters.length) = some 0 := by decide +kernel
def y_P_restart : MethodName := ⟨cn_P, "restart", "(LRangeReckoner$Term;)V"⟩
theorem pl_P_restart : y_P_restart.cls ≠ "java/lang/invoke/MethodHandle" ∧ y_P_restart.cls ≠ "java/lang/invoke/VarHandle" ∧ (parseMethodDescriptor y_P_restart.desc).map (fun d => d.parameters.length) = some 1 := by decide +kernel
def y_P_read : MethodName := ⟨cn_P, "read", "(LRangeReckoner$Term;)I"⟩
theorem pl_P_read : y_P_read.cls ≠ "java/lang/invoke/MethodHandle" ∧ y_P_read.cls ≠ "java/lang/invoke/VarHandle" ∧ (parseMethodDescriptor y_P_read.desc).map (fun d => d.parameters.length) = some 1 := by decide +kernel
def y_R_count : MethodName := ⟨cn_R, "count", "(I)I"⟩
theorem pl_R_count : y_R_count.cls ≠ "java/lang/invoke/MethodHandle" ∧ y_R_count.cls ≠ "java/lang/invoke/VarHandle" ∧ (parseMethodDescriptor y_R_count.desc).map (fun d => d.parameters.length) = some 1 := by decide +kernel
def y_R_feed : MethodName := ⟨cn_R, "feed", "(II)I"⟩
theorem pl_R_feed : y_R_feed.cls ≠ "java/lang/invoke/MethodHandle" ∧ y_R_feed.cls ≠ "java/lang/invoke/VarHandle" ∧ (parseMethodDescriptor y_R_feed.desc).map (fun d => d.parameters.length) = some 2 := by decide +kernel
def y_V_set : MethodName := ⟨cn_V, "set", "(II)Z"⟩
theorem pl_V_set : y_V_set.cls ≠ "java/lang/invoke/MethodHandle" ∧ y_V_set.cls ≠ "java/lang/invoke/VarHandle" ∧ (parseMethodDescriptor y_V_set.desc).map (fun d => d.parameters.length) = some 2 := by decide +kernel
def y_R_give : MethodName := ⟨cn_R, "give", "(II)Z"⟩
theorem pl_R_give : y_R_give.cls ≠ "java/lang/invoke/MethodHandle" ∧ y_R_give.cls ≠ "java/lang/invoke/VarHandle" ∧ (parseMethodDescriptor y_R_give.desc).map (fun d => d.parameters.length) = some 2 := by decide +kernel
def y_T_placeOf : MethodName := ⟨cn_T, "placeOf", "(I)I"⟩
theorem pl_T_placeOf : y_T_placeOf.cls ≠ "java/lang/invoke/MethodHandle" ∧ y_T_placeOf.cls ≠ "java/lang/invoke/VarHandle" ∧ (parseMethodDescriptor y_T_placeOf.desc).map (fun d => d.parameters.length) = some 1 := by decide +kernel
def y_R_part : MethodName := ⟨cn_R, "part", "(II)I"⟩
theorem pl_R_part : y_R_part.cls ≠ "java/lang/invoke/MethodHandle" ∧ y_R_part.cls ≠ "java/lang/invoke/VarHandle" ∧ (parseMethodDescriptor y_R_part.desc).map (fun d => d.parameters.length) = some 2 := by decide +kernel
def y_R_take : MethodName := ⟨cn_R, "take", "()I"⟩
theorem pl_R_take : y_R_take.cls ≠ "java/lang/invoke/MethodHandle" ∧ y_R_take.cls ≠ "java/lang/invoke/VarHandle" ∧ (parseMethodDescriptor y_R_take.desc).map (fun d => d.parameters.length) = some 0 := by decide +kernel
def y_V_add : MethodName := ⟨cn_V, "add", "(II)I"⟩
theorem pl_V_add : y_V_add.cls ≠ "java/lang/invoke/MethodHandle" ∧ y_V_add.cls ≠ "java/lang/invoke/VarHandle" ∧ (parseMethodDescriptor y_V_add.desc).map (fun d => d.parameters.length) = some 2 := by decide +kernel
def y_R_variable : MethodName := ⟨cn_R, "variable", "(II)I"⟩
theorem pl_R_variable : y_R_variable.cls ≠ "java/lang/invoke/MethodHandle" ∧ y_R_variable.cls ≠ "java/lang/invoke/VarHandle" ∧ (parseMethodDescriptor y_R_variable.desc).map (fun d => d.parameters.length) = some 2 := by decide +kernel
def y_R_width : MethodName := ⟨cn_R, "width", "()J"⟩
theorem pl_R_width : y_R_width.cls ≠ "java/lang/invoke/MethodHandle" ∧ y_R_width.cls ≠ "java/lang/invoke/VarHandle" ∧ (parseMethodDescriptor y_R_width.desc).map (fun d => d.parameters.length) = some 0 := by decide +kernel
def y_T_isTrue : MethodName := ⟨cn_T, "isTrue", "(IJJ)Z"⟩
theorem pl_T_isTrue : y_T_isTrue.cls ≠ "java/lang/invoke/MethodHandle" ∧ y_T_isTrue.cls ≠ "java/lang/invoke/VarHandle" ∧ (parseMethodDescriptor y_T_isTrue.desc).map (fun d => d.parameters.length) = some 3 := by decide +kernel
def y_T_numberOf : MethodName := ⟨cn_T, "numberOf", "(IJJ)J"⟩
theorem pl_T_numberOf : y_T_numberOf.cls ≠ "java/lang/invoke/MethodHandle" ∧ y_T_numberOf.cls ≠ "java/lang/invoke/VarHandle" ∧ (parseMethodDescriptor y_T_numberOf.desc).map (fun d => d.parameters.length) = some 3 := by decide +kernel
def y_T_workedOut : MethodName := ⟨cn_T, "workedOut", "(I)J"⟩
theorem pl_T_workedOut : y_T_workedOut.cls ≠ "java/lang/invoke/MethodHandle" ∧ y_T_workedOut.cls ≠ "java/lang/invoke/VarHandle" ∧ (parseMethodDescriptor y_T_workedOut.desc).map (fun d => d.parameters.length) = some 1 := by decide +kernel
def y_V_worthOf : MethodName := ⟨cn_V, "worthOf", "(I)I"⟩
theorem pl_V_worthOf : y_V_worthOf.cls ≠ "java/lang/invoke/MethodHandle" ∧ y_V_worthOf.cls ≠ "java/lang/invoke/VarHandle" ∧ (parseMethodDescriptor y_V_worthOf.desc).map (fun d => d.parameters.length) = some 1 := by decide +kernel
def y_T_work : MethodName := ⟨cn_T, "work", "(ILRangeReckoner$Variables;)J"⟩
theorem pl_T_work : y_T_work.cls ≠ "java/lang/invoke/MethodHandle" ∧ y_T_work.cls ≠ "java/lang/invoke/VarHandle" ∧ (parseMethodDescriptor y_T_work.desc).map (fun d => d.parameters.length) = some 2 := by decide +kernel
def y_T_worthOf : MethodName := ⟨cn_T, "worthOf", "(ILRangeReckoner$Variables;)J"⟩
theorem pl_T_worthOf : y_T_worthOf.cls ≠ "java/lang/invoke/MethodHandle" ∧ y_T_worthOf.cls ≠ "java/lang/invoke/VarHandle" ∧ (parseMethodDescriptor y_T_worthOf.desc).map (fun d => d.parameters.length) = some 2 := by decide +kernel
def y_A_spells : MethodName := ⟨cn_A, "spells", "(ILjava/lang/String;)Z"⟩
theorem pl_A_spells : y_A_spells.cls ≠ "java/lang/invoke/MethodHandle" ∧ y_A_spells.cls ≠ "java/lang/invoke/VarHandle" ∧ (parseMethodDescriptor y_A_spells.desc).map (fun d => d.parameters.length) = some 2 := by decide +kernel
theorem wn_A_append : ∀ w ∈ zwVN y_A_append prog_5_method_5_code 4 (some .boolean), w ∈ zT := List.forall_mem_cons.mpr ⟨zt_m2 20 rfl rfl, List.forall_mem_cons.mpr ⟨zt_sel (q := (y_A_append, 2)) 3 rfl, List.forall_mem_cons.mpr ⟨zt_m1 3 rfl rfl, List.forall_mem_cons.mpr ⟨zt_m2 21 rfl rfl, fun _ h => absurd h List.not_mem_nil⟩⟩⟩⟩
theorem wn_A_appendWord : ∀ w ∈ zwVN y_A_appendWord prog_5_method_6_code 6 (some .int), w ∈ zT := List.forall_mem_cons.mpr ⟨zt_m2 24 rfl rfl, List.forall_mem_cons.mpr ⟨zt_sel (q := (y_A_appendWord, 2)) 4 rfl, List.forall_mem_cons.mpr ⟨zt_m1 3 rfl rfl, List.forall_mem_cons.mpr ⟨zt_m2 25 rfl rfl, fun _ h => absurd h List.not_mem_nil⟩⟩⟩⟩
theorem wn_A_clear : ∀ w ∈ zwVN y_A_clear prog_5_method_2_code 1 none, w ∈ zT := List.forall_mem_cons.mpr ⟨zt_m3 110 rfl rfl, List.forall_mem_cons.mpr ⟨zt_sel (q := (y_A_clear, 2)) 57 rfl, List.forall_mem_cons.mpr ⟨zt_m1 3 rfl rfl, List.forall_mem_cons.mpr ⟨zt_m3 111 rfl rfl, fun _ h => absurd h List.not_mem_nil⟩⟩⟩⟩
theorem wn_A_signAt : ∀ w ∈ zwVN y_A_signAt prog_5_method_3_code 2 (some .int), w ∈ zT := List.forall_mem_cons.mpr ⟨zt_m2 60 rfl rfl, List.forall_mem_cons.mpr ⟨zt_sel (q := (y_A_signAt, 2)) 12 rfl, List.forall_mem_cons.mpr ⟨zt_m1 3 rfl rfl, List.forall_mem_cons.mpr ⟨zt_m2 61 rfl rfl, fun _ h => absurd h List.not_mem_nil⟩⟩⟩⟩
theorem wn_A_spells : ∀ w ∈ zwVN y_A_spells prog_5_method_4_code 4 (some .boolean), w ∈ zT := List.forall_mem_cons.mpr ⟨zt_m2 85 rfl rfl, List.forall_mem_cons.mpr ⟨zt_sel (q := (y_A_spells, 2)) 16 rfl, List.forall_mem_cons.mpr ⟨zt_m1 3 rfl rfl, List.forall_mem_cons.mpr ⟨zt_m2 86 rfl rfl, fun _ h => absurd h List.not_mem_nil⟩⟩⟩⟩
theorem wn_G_cameNextTerm : ∀ w ∈ zwVN y_G_cameNextTerm prog_3_method_8_code 1 none, w ∈ zT := List.forall_mem_cons.mpr ⟨zt_m3 106 rfl rfl, List.forall_mem_cons.mpr ⟨zt_sel (q := (y_G_cameNextTerm, 5)) 56 rfl, List.forall_mem_cons.mpr ⟨zt_m1 6 rfl rfl, List.forall_mem_cons.mpr ⟨zt_m3 107 rfl rfl, fun _ h => absurd h List.not_mem_nil⟩⟩⟩⟩
theorem wn_G_clear : ∀ w ∈ zwVN y_G_clear prog_3_method_2_code 1 none, w ∈ zT := List.forall_mem_cons.mpr ⟨zt_m2 48 rfl rfl, List.forall_mem_cons.mpr ⟨zt_sel (q := (y_G_clear, 5)) 9 rfl, List.forall_mem_cons.mpr ⟨zt_m1 6 rfl rfl, List.forall_mem_cons.mpr ⟨zt_m2 49 rfl rfl, fun _ h => absurd h List.not_mem_nil⟩⟩⟩⟩
theorem wn_G_nests : ∀ w ∈ zwSN y_G_nests prog_3_method_10_code 1 (some .boolean), w ∈ zT := List.forall_mem_cons.mpr ⟨zt_m2 204 rfl rfl, List.forall_mem_cons.mpr ⟨zt_m1 6 rfl rfl, List.forall_mem_cons.mpr ⟨zt_m2 205 rfl rfl, fun _ h => absurd h List.not_mem_nil⟩⟩⟩
theorem wn_G_pop : ∀ w ∈ zwVN y_G_pop prog_3_method_4_code 1 none, w ∈ zT := List.forall_mem_cons.mpr ⟨zt_m3 9 rfl rfl, List.forall_mem_cons.mpr ⟨zt_sel (q := (y_G_pop, 5)) 39 rfl, List.forall_mem_cons.mpr ⟨zt_m1 6 rfl rfl, List.forall_mem_cons.mpr ⟨zt_m3 10 rfl rfl, fun _ h => absurd h List.not_mem_nil⟩⟩⟩⟩
theorem wn_G_push : ∀ w ∈ zwVN y_G_push prog_3_method_3_code 3 none, w ∈ zT := List.forall_mem_cons.mpr ⟨zt_m2 201 rfl rfl, List.forall_mem_cons.mpr ⟨zt_sel (q := (y_G_push, 5)) 30 rfl, List.forall_mem_cons.mpr ⟨zt_m1 6 rfl rfl, List.forall_mem_cons.mpr ⟨zt_m2 202 rfl rfl, fun _ h => absurd h List.not_mem_nil⟩⟩⟩⟩
theorem wn_G_topAwaited : ∀ w ∈ zwVN y_G_topAwaited prog_3_method_7_code 1 (some .int), w ∈ zT := List.forall_mem_cons.mpr ⟨zt_m2 235 rfl rfl, List.forall_mem_cons.mpr ⟨zt_sel (q := (y_G_topAwaited, 5)) 36 rfl, List.forall_mem_cons.mpr ⟨zt_m1 6 rfl rfl, List.forall_mem_cons.mpr ⟨zt_m2 236 rfl rfl, fun _ h => absurd h List.not_mem_nil⟩⟩⟩⟩
theorem wn_G_topCode : ∀ w ∈ zwVN y_G_topCode prog_3_method_5_code 1 (some .int), w ∈ zT := List.forall_mem_cons.mpr ⟨zt_m2 230 rfl rfl, List.forall_mem_cons.mpr ⟨zt_sel (q := (y_G_topCode, 5)) 35 rfl, List.forall_mem_cons.mpr ⟨zt_m1 6 rfl rfl, List.forall_mem_cons.mpr ⟨zt_m2 231 rfl rfl, fun _ h => absurd h List.not_mem_nil⟩⟩⟩⟩
theorem wn_G_topPlace : ∀ w ∈ zwVN y_G_topPlace prog_3_method_6_code 1 (some .int), w ∈ zT := List.forall_mem_cons.mpr ⟨zt_m3 5 rfl rfl, List.forall_mem_cons.mpr ⟨zt_sel (q := (y_G_topPlace, 5)) 38 rfl, List.forall_mem_cons.mpr ⟨zt_m1 6 rfl rfl, List.forall_mem_cons.mpr ⟨zt_m3 6 rfl rfl, fun _ h => absurd h List.not_mem_nil⟩⟩⟩⟩
theorem wn_G_topStrength : ∀ w ∈ zwVN y_G_topStrength prog_3_method_9_code 1 (some .int), w ∈ zT := List.forall_mem_cons.mpr ⟨zt_m2 226 rfl rfl, List.forall_mem_cons.mpr ⟨zt_sel (q := (y_G_topStrength, 5)) 34 rfl, List.forall_mem_cons.mpr ⟨zt_m1 6 rfl rfl, List.forall_mem_cons.mpr ⟨zt_m2 227 rfl rfl, fun _ h => absurd h List.not_mem_nil⟩⟩⟩⟩
theorem wn_K_advance : ∀ w ∈ zwVN y_K_advance prog_7_method_3_code 2 none, w ∈ zT := List.forall_mem_cons.mpr ⟨zt_m2 52 rfl rfl, List.forall_mem_cons.mpr ⟨zt_sel (q := (y_K_advance, 5)) 10 rfl, List.forall_mem_cons.mpr ⟨zt_m1 8 rfl rfl, List.forall_mem_cons.mpr ⟨zt_m2 53 rfl rfl, fun _ h => absurd h List.not_mem_nil⟩⟩⟩⟩
theorem wn_K_doubleMark : ∀ w ∈ zwSN y_K_doubleMark prog_7_method_9_code 2 (some .int), w ∈ zT := List.forall_mem_cons.mpr ⟨zt_m2 143 rfl rfl, List.forall_mem_cons.mpr ⟨zt_m1 8 rfl rfl, List.forall_mem_cons.mpr ⟨zt_m2 144 rfl rfl, fun _ h => absurd h List.not_mem_nil⟩⟩⟩
theorem wn_K_readDigits : ∀ w ∈ zwVN y_K_readDigits prog_7_method_5_code 5 none, w ∈ zT := List.forall_mem_cons.mpr ⟨zt_m2 70 rfl rfl, List.forall_mem_cons.mpr ⟨zt_sel (q := (y_K_readDigits, 5)) 13 rfl, List.forall_mem_cons.mpr ⟨zt_m1 8 rfl rfl, List.forall_mem_cons.mpr ⟨zt_m2 71 rfl rfl, fun _ h => absurd h List.not_mem_nil⟩⟩⟩⟩
theorem wn_K_readMark : ∀ w ∈ zwVN y_K_readMark prog_7_method_8_code 2 none, w ∈ zT := List.forall_mem_cons.mpr ⟨zt_m2 140 rfl rfl, List.forall_mem_cons.mpr ⟨zt_sel (q := (y_K_readMark, 5)) 17 rfl, List.forall_mem_cons.mpr ⟨zt_m1 8 rfl rfl, List.forall_mem_cons.mpr ⟨zt_m2 141 rfl rfl, fun _ h => absurd h List.not_mem_nil⟩⟩⟩⟩
theorem wn_K_readVariable : ∀ w ∈ zwVN y_K_readVariable prog_7_method_6_code 3 none, w ∈ zT := List.forall_mem_cons.mpr ⟨zt_m2 76 rfl rfl, List.forall_mem_cons.mpr ⟨zt_sel (q := (y_K_readVariable, 5)) 14 rfl, List.forall_mem_cons.mpr ⟨zt_m1 8 rfl rfl, List.forall_mem_cons.mpr ⟨zt_m2 77 rfl rfl, fun _ h => absurd h List.not_mem_nil⟩⟩⟩⟩
theorem wn_K_readWord : ∀ w ∈ zwVN y_K_readWord prog_7_method_7_code 1 none, w ∈ zT := List.forall_mem_cons.mpr ⟨zt_m2 80 rfl rfl, List.forall_mem_cons.mpr ⟨zt_sel (q := (y_K_readWord, 5)) 15 rfl, List.forall_mem_cons.mpr ⟨zt_m1 8 rfl rfl, List.forall_mem_cons.mpr ⟨zt_m2 81 rfl rfl, fun _ h => absurd h List.not_mem_nil⟩⟩⟩⟩
theorem wn_K_restart : ∀ w ∈ zwVN y_K_restart prog_7_method_2_code 1 none, w ∈ zT := List.forall_mem_cons.mpr ⟨zt_m2 44 rfl rfl, List.forall_mem_cons.mpr ⟨zt_sel (q := (y_K_restart, 5)) 8 rfl, List.forall_mem_cons.mpr ⟨zt_m1 8 rfl rfl, List.forall_mem_cons.mpr ⟨zt_m2 45 rfl rfl, fun _ h => absurd h List.not_mem_nil⟩⟩⟩⟩
theorem wn_K_singleMark : ∀ w ∈ zwSN y_K_singleMark prog_7_method_10_code 1 (some .int), w ∈ zT := List.forall_mem_cons.mpr ⟨zt_m2 146 rfl rfl, List.forall_mem_cons.mpr ⟨zt_m1 8 rfl rfl, List.forall_mem_cons.mpr ⟨zt_m2 147 rfl rfl, fun _ h => absurd h List.not_mem_nil⟩⟩⟩
theorem wn_K_skipSpaces : ∀ w ∈ zwVN y_K_skipSpaces prog_7_method_4_code 1 none, w ∈ zT := List.forall_mem_cons.mpr ⟨zt_m2 56 rfl rfl, List.forall_mem_cons.mpr ⟨zt_sel (q := (y_K_skipSpaces, 5)) 11 rfl, List.forall_mem_cons.mpr ⟨zt_m1 8 rfl rfl, List.forall_mem_cons.mpr ⟨zt_m2 57 rfl rfl, fun _ h => absurd h List.not_mem_nil⟩⟩⟩⟩
theorem wn_M_at : ∀ w ∈ zwVN y_M_at prog_10_method_7_code 2 (some .int), w ∈ zT := List.forall_mem_cons.mpr ⟨zt_m4 138 rfl rfl, List.forall_mem_cons.mpr ⟨zt_sel (q := (y_M_at, 35)) 65 rfl, List.forall_mem_cons.mpr ⟨zt_m1 9 rfl rfl, List.forall_mem_cons.mpr ⟨zt_m4 139 rfl rfl, fun _ h => absurd h List.not_mem_nil⟩⟩⟩⟩
theorem wn_M_bad : ∀ w ∈ zwVN y_M_bad prog_10_method_12_code 3 none, w ∈ zT := List.forall_mem_cons.mpr ⟨zt_m4 160 rfl rfl, List.forall_mem_cons.mpr ⟨zt_sel (q := (y_M_bad, 35)) 70 rfl, List.forall_mem_cons.mpr ⟨zt_m1 9 rfl rfl, List.forall_mem_cons.mpr ⟨zt_m4 161 rfl rfl, fun _ h => absurd h List.not_mem_nil⟩⟩⟩⟩
theorem wn_M_begins : ∀ w ∈ zwVN y_M_begins prog_10_method_29_code 1 (some .boolean), w ∈ zT := List.forall_mem_cons.mpr ⟨zt_m4 152 rfl rfl, List.forall_mem_cons.mpr ⟨zt_sel (q := (y_M_begins, 35)) 68 rfl, List.forall_mem_cons.mpr ⟨zt_m1 9 rfl rfl, List.forall_mem_cons.mpr ⟨zt_m4 153 rfl rfl, fun _ h => absurd h List.not_mem_nil⟩⟩⟩⟩
theorem wn_M_doAll : ∀ w ∈ zwVN y_M_doAll prog_10_method_27_code 2 none, w ∈ zT := List.forall_mem_cons.mpr ⟨zt_m4 216 rfl rfl, List.forall_mem_cons.mpr ⟨zt_sel (q := (y_M_doAll, 35)) 81 rfl, List.forall_mem_cons.mpr ⟨zt_m1 9 rfl rfl, List.forall_mem_cons.mpr ⟨zt_m4 217 rfl rfl, fun _ h => absurd h List.not_mem_nil⟩⟩⟩⟩
theorem wn_M_doChoice : ∀ w ∈ zwVN y_M_doChoice prog_10_method_25_code 6 none, w ∈ zT := List.forall_mem_cons.mpr ⟨zt_m4 224 rfl rfl, List.forall_mem_cons.mpr ⟨zt_sel (q := (y_M_doChoice, 35)) 83 rfl, List.forall_mem_cons.mpr ⟨zt_m1 9 rfl rfl, List.forall_mem_cons.mpr ⟨zt_m4 225 rfl rfl, fun _ h => absurd h List.not_mem_nil⟩⟩⟩⟩
theorem wn_M_doOne : ∀ w ∈ zwVN y_M_doOne prog_10_method_24_code 14 none, w ∈ zT := List.forall_mem_cons.mpr ⟨zt_m4 208 rfl rfl, List.forall_mem_cons.mpr ⟨zt_sel (q := (y_M_doOne, 35)) 79 rfl, List.forall_mem_cons.mpr ⟨zt_m1 9 rfl rfl, List.forall_mem_cons.mpr ⟨zt_m4 209 rfl rfl, fun _ h => absurd h List.not_mem_nil⟩⟩⟩⟩
theorem wn_M_doTwo : ∀ w ∈ zwVN y_M_doTwo prog_10_method_23_code 20 none, w ∈ zT := List.forall_mem_cons.mpr ⟨zt_m4 187 rfl rfl, List.forall_mem_cons.mpr ⟨zt_sel (q := (y_M_doTwo, 35)) 76 rfl, List.forall_mem_cons.mpr ⟨zt_m1 9 rfl rfl, List.forall_mem_cons.mpr ⟨zt_m4 188 rfl rfl, fun _ h => absurd h List.not_mem_nil⟩⟩⟩⟩
theorem wn_M_ends : ∀ w ∈ zwVN y_M_ends prog_10_method_22_code 9 none, w ∈ zT := List.forall_mem_cons.mpr ⟨zt_m4 195 rfl rfl, List.forall_mem_cons.mpr ⟨zt_sel (q := (y_M_ends, 35)) 78 rfl, List.forall_mem_cons.mpr ⟨zt_m1 9 rfl rfl, List.forall_mem_cons.mpr ⟨zt_m4 196 rfl rfl, fun _ h => absurd h List.not_mem_nil⟩⟩⟩⟩
theorem wn_M_enter : ∀ w ∈ zwVN y_M_enter prog_10_method_15_code 2 none, w ∈ zT := List.forall_mem_cons.mpr ⟨zt_m4 168 rfl rfl, List.forall_mem_cons.mpr ⟨zt_sel (q := (y_M_enter, 35)) 72 rfl, List.forall_mem_cons.mpr ⟨zt_m1 9 rfl rfl, List.forall_mem_cons.mpr ⟨zt_m4 169 rfl rfl, fun _ h => absurd h List.not_mem_nil⟩⟩⟩⟩
theorem wn_M_goesOn : ∀ w ∈ zwVN y_M_goesOn prog_10_method_30_code 5 (some .boolean), w ∈ zT := List.forall_mem_cons.mpr ⟨zt_m4 212 rfl rfl, List.forall_mem_cons.mpr ⟨zt_sel (q := (y_M_goesOn, 35)) 80 rfl, List.forall_mem_cons.mpr ⟨zt_m1 9 rfl rfl, List.forall_mem_cons.mpr ⟨zt_m4 213 rfl rfl, fun _ h => absurd h List.not_mem_nil⟩⟩⟩⟩
theorem wn_M_greater : ∀ w ∈ zwSN y_M_greater prog_10_method_20_code 4 (some .long), w ∈ zT := List.forall_mem_cons.mpr ⟨zt_m4 201 rfl rfl, List.forall_mem_cons.mpr ⟨zt_m1 9 rfl rfl, List.forall_mem_cons.mpr ⟨zt_m4 202 rfl rfl, fun _ h => absurd h List.not_mem_nil⟩⟩⟩
theorem wn_M_hold : ∀ w ∈ zwVN y_M_hold prog_10_method_14_code 3 none, w ∈ zT := List.forall_mem_cons.mpr ⟨zt_m4 172 rfl rfl, List.forall_mem_cons.mpr ⟨zt_sel (q := (y_M_hold, 35)) 73 rfl, List.forall_mem_cons.mpr ⟨zt_m1 9 rfl rfl, List.forall_mem_cons.mpr ⟨zt_m4 173 rfl rfl, fun _ h => absurd h List.not_mem_nil⟩⟩⟩⟩
theorem wn_M_isDigit : ∀ w ∈ zwVN y_M_isDigit prog_10_method_8_code 2 (some .boolean), w ∈ zT := List.forall_mem_cons.mpr ⟨zt_m4 142 rfl rfl, List.forall_mem_cons.mpr ⟨zt_sel (q := (y_M_isDigit, 35)) 66 rfl, List.forall_mem_cons.mpr ⟨zt_m1 9 rfl rfl, List.forall_mem_cons.mpr ⟨zt_m4 143 rfl rfl, fun _ h => absurd h List.not_mem_nil⟩⟩⟩⟩
theorem wn_M_lesser : ∀ w ∈ zwSN y_M_lesser prog_10_method_19_code 4 (some .long), w ∈ zT := List.forall_mem_cons.mpr ⟨zt_m4 198 rfl rfl, List.forall_mem_cons.mpr ⟨zt_m1 9 rfl rfl, List.forall_mem_cons.mpr ⟨zt_m4 199 rfl rfl, fun _ h => absurd h List.not_mem_nil⟩⟩⟩
theorem wn_M_next : ∀ w ∈ zwVN y_M_next prog_10_method_10_code 4 none, w ∈ zT := List.forall_mem_cons.mpr ⟨zt_m4 134 rfl rfl, List.forall_mem_cons.mpr ⟨zt_sel (q := (y_M_next, 35)) 64 rfl, List.forall_mem_cons.mpr ⟨zt_m1 9 rfl rfl, List.forall_mem_cons.mpr ⟨zt_m4 135 rfl rfl, fun _ h => absurd h List.not_mem_nil⟩⟩⟩⟩
theorem wn_M_part5 : ∀ w ∈ zwVN y_M_part5 prog_10_method_13_code 8 (some .int), w ∈ zT := List.forall_mem_cons.mpr ⟨zt_m4 156 rfl rfl, List.forall_mem_cons.mpr ⟨zt_sel (q := (y_M_part5, 35)) 69 rfl, List.forall_mem_cons.mpr ⟨zt_m1 9 rfl rfl, List.forall_mem_cons.mpr ⟨zt_m4 157 rfl rfl, fun _ h => absurd h List.not_mem_nil⟩⟩⟩⟩
theorem wn_M_pop : ∀ w ∈ zwVN y_M_pop prog_10_method_18_code 1 (some .int), w ∈ zT := List.forall_mem_cons.mpr ⟨zt_m4 191 rfl rfl, List.forall_mem_cons.mpr ⟨zt_sel (q := (y_M_pop, 35)) 77 rfl, List.forall_mem_cons.mpr ⟨zt_m1 9 rfl rfl, List.forall_mem_cons.mpr ⟨zt_m4 192 rfl rfl, fun _ h => absurd h List.not_mem_nil⟩⟩⟩⟩
theorem wn_M_push : ∀ w ∈ zwVN y_M_push prog_10_method_17_code 2 none, w ∈ zT := List.forall_mem_cons.mpr ⟨zt_m4 164 rfl rfl, List.forall_mem_cons.mpr ⟨zt_sel (q := (y_M_push, 35)) 71 rfl, List.forall_mem_cons.mpr ⟨zt_m1 9 rfl rfl, List.forall_mem_cons.mpr ⟨zt_m4 165 rfl rfl, fun _ h => absurd h List.not_mem_nil⟩⟩⟩⟩
theorem wn_M_rank : ∀ w ∈ zwSN y_M_rank prog_10_method_11_code 1 (some .int), w ∈ zT := List.forall_mem_cons.mpr ⟨zt_m4 183 rfl rfl, List.forall_mem_cons.mpr ⟨zt_m1 9 rfl rfl, List.forall_mem_cons.mpr ⟨zt_m4 184 rfl rfl, fun _ h => absurd h List.not_mem_nil⟩⟩⟩
theorem wn_M_sign : ∀ w ∈ zwSN y_M_sign prog_10_method_5_code 3 (some .int), w ∈ zT := List.forall_mem_cons.mpr ⟨zt_m4 126 rfl rfl, List.forall_mem_cons.mpr ⟨zt_m1 9 rfl rfl, List.forall_mem_cons.mpr ⟨zt_m4 127 rfl rfl, fun _ h => absurd h List.not_mem_nil⟩⟩⟩
theorem wn_M_size : ∀ w ∈ zwSN y_M_size prog_10_method_21_code 2 (some .long), w ∈ zT := List.forall_mem_cons.mpr ⟨zt_m4 204 rfl rfl, List.forall_mem_cons.mpr ⟨zt_m1 9 rfl rfl, List.forall_mem_cons.mpr ⟨zt_m4 205 rfl rfl, fun _ h => absurd h List.not_mem_nil⟩⟩⟩
theorem wn_M_stands : ∀ w ∈ zwVN y_M_stands prog_10_method_9_code 4 (some .boolean), w ∈ zT := List.forall_mem_cons.mpr ⟨zt_m4 148 rfl rfl, List.forall_mem_cons.mpr ⟨zt_sel (q := (y_M_stands, 35)) 67 rfl, List.forall_mem_cons.mpr ⟨zt_m1 9 rfl rfl, List.forall_mem_cons.mpr ⟨zt_m4 149 rfl rfl, fun _ h => absurd h List.not_mem_nil⟩⟩⟩⟩
theorem wn_M_termEnds : ∀ w ∈ zwVN y_M_termEnds prog_10_method_28_code 3 none, w ∈ zT := List.forall_mem_cons.mpr ⟨zt_m4 220 rfl rfl, List.forall_mem_cons.mpr ⟨zt_sel (q := (y_M_termEnds, 35)) 82 rfl, List.forall_mem_cons.mpr ⟨zt_m1 9 rfl rfl, List.forall_mem_cons.mpr ⟨zt_m4 221 rfl rfl, fun _ h => absurd h List.not_mem_nil⟩⟩⟩⟩
theorem wn_M_termFault : ∀ w ∈ zwVN y_M_termFault prog_10_method_31_code 1 none, w ∈ zT := List.forall_mem_cons.mpr ⟨zt_m4 228 rfl rfl, List.forall_mem_cons.mpr ⟨zt_sel (q := (y_M_termFault, 35)) 84 rfl, List.forall_mem_cons.mpr ⟨zt_m1 9 rfl rfl, List.forall_mem_cons.mpr ⟨zt_m4 229 rfl rfl, fun _ h => absurd h List.not_mem_nil⟩⟩⟩⟩
theorem wn_M_topOp : ∀ w ∈ zwVN y_M_topOp prog_10_method_16_code 1 (some .int), w ∈ zT := List.forall_mem_cons.mpr ⟨zt_m4 180 rfl rfl, List.forall_mem_cons.mpr ⟨zt_sel (q := (y_M_topOp, 35)) 75 rfl, List.forall_mem_cons.mpr ⟨zt_m1 9 rfl rfl, List.forall_mem_cons.mpr ⟨zt_m4 181 rfl rfl, fun _ h => absurd h List.not_mem_nil⟩⟩⟩⟩
theorem wn_M_truth : ∀ w ∈ zwSN y_M_truth prog_10_method_34_code 1 (some .long), w ∈ zT := List.forall_mem_cons.mpr ⟨zt_m5 3 rfl rfl, List.forall_mem_cons.mpr ⟨zt_m1 9 rfl rfl, List.forall_mem_cons.mpr ⟨zt_m5 4 rfl rfl, fun _ h => absurd h List.not_mem_nil⟩⟩⟩
theorem wn_M_wasRead : ∀ w ∈ zwVN y_M_wasRead prog_10_method_26_code 4 none, w ∈ zT := List.forall_mem_cons.mpr ⟨zt_m4 176 rfl rfl, List.forall_mem_cons.mpr ⟨zt_sel (q := (y_M_wasRead, 35)) 74 rfl, List.forall_mem_cons.mpr ⟨zt_m1 9 rfl rfl, List.forall_mem_cons.mpr ⟨zt_m4 177 rfl rfl, fun _ h => absurd h List.not_mem_nil⟩⟩⟩⟩
theorem wn_M_worthOf : ∀ w ∈ zwVN y_M_worthOf prog_10_method_35_code 7 (some .long), w ∈ zT := List.forall_mem_cons.mpr ⟨zt_m5 0 rfl rfl, List.forall_mem_cons.mpr ⟨zt_sel (q := (y_M_worthOf, 35)) 85 rfl, List.forall_mem_cons.mpr ⟨zt_m1 9 rfl rfl, List.forall_mem_cons.mpr ⟨zt_m5 1 rfl rfl, fun _ h => absurd h List.not_mem_nil⟩⟩⟩⟩
theorem wn_N_cover : ∀ w ∈ zwVN y_N_cover prog_4_method_6_code 9 none, w ∈ zT := List.forall_mem_cons.mpr ⟨zt_m3 50 rfl rfl, List.forall_mem_cons.mpr ⟨zt_sel (q := (y_N_cover, 2)) 47 rfl, List.forall_mem_cons.mpr ⟨zt_m1 7 rfl rfl, List.forall_mem_cons.mpr ⟨zt_m3 51 rfl rfl, fun _ h => absurd h List.not_mem_nil⟩⟩⟩⟩
theorem wn_N_hasZero : ∀ w ∈ zwVN y_N_hasZero prog_4_method_4_code 1 (some .boolean), w ∈ zT := List.forall_mem_cons.mpr ⟨zt_m3 41 rfl rfl, List.forall_mem_cons.mpr ⟨zt_sel (q := (y_N_hasZero, 2)) 45 rfl, List.forall_mem_cons.mpr ⟨zt_m1 7 rfl rfl, List.forall_mem_cons.mpr ⟨zt_m3 42 rfl rfl, fun _ h => absurd h List.not_mem_nil⟩⟩⟩⟩
theorem wn_N_isBeyond : ∀ w ∈ zwVN y_N_isBeyond prog_4_method_3_code 1 (some .boolean), w ∈ zT := List.forall_mem_cons.mpr ⟨zt_m3 72 rfl rfl, List.forall_mem_cons.mpr ⟨zt_sel (q := (y_N_isBeyond, 2)) 50 rfl, List.forall_mem_cons.mpr ⟨zt_m1 7 rfl rfl, List.forall_mem_cons.mpr ⟨zt_m3 73 rfl rfl, fun _ h => absurd h List.not_mem_nil⟩⟩⟩⟩
theorem wn_N_put : ∀ w ∈ zwVN y_N_put prog_4_method_2_code 5 none, w ∈ zT := List.forall_mem_cons.mpr ⟨zt_m2 154 rfl rfl, List.forall_mem_cons.mpr ⟨zt_sel (q := (y_N_put, 2)) 19 rfl, List.forall_mem_cons.mpr ⟨zt_m1 7 rfl rfl, List.forall_mem_cons.mpr ⟨zt_m2 155 rfl rfl, fun _ h => absurd h List.not_mem_nil⟩⟩⟩⟩
theorem wn_N_reckon : ∀ w ∈ zwVN y_N_reckon prog_4_method_5_code 4 none, w ∈ zT := List.forall_mem_cons.mpr ⟨zt_m3 45 rfl rfl, List.forall_mem_cons.mpr ⟨zt_sel (q := (y_N_reckon, 2)) 46 rfl, List.forall_mem_cons.mpr ⟨zt_m1 7 rfl rfl, List.forall_mem_cons.mpr ⟨zt_m3 46 rfl rfl, fun _ h => absurd h List.not_mem_nil⟩⟩⟩⟩
theorem wn_N_reckonRest : ∀ w ∈ zwVN y_N_reckonRest prog_4_method_7_code 5 none, w ∈ zT := List.forall_mem_cons.mpr ⟨zt_m3 60 rfl rfl, List.forall_mem_cons.mpr ⟨zt_sel (q := (y_N_reckonRest, 2)) 48 rfl, List.forall_mem_cons.mpr ⟨zt_m1 7 rfl rfl, List.forall_mem_cons.mpr ⟨zt_m3 61 rfl rfl, fun _ h => absurd h List.not_mem_nil⟩⟩⟩⟩
theorem wn_N_reckonSize : ∀ w ∈ zwVN y_N_reckonSize prog_4_method_8_code 6 none, w ∈ zT := List.forall_mem_cons.mpr ⟨zt_m3 67 rfl rfl, List.forall_mem_cons.mpr ⟨zt_sel (q := (y_N_reckonSize, 2)) 49 rfl, List.forall_mem_cons.mpr ⟨zt_m1 7 rfl rfl, List.forall_mem_cons.mpr ⟨zt_m3 68 rfl rfl, fun _ h => absurd h List.not_mem_nil⟩⟩⟩⟩
theorem wn_P_addPart : ∀ w ∈ zwVN y_P_addPart prog_2_method_9_code 5 none, w ∈ zT := List.forall_mem_cons.mpr ⟨zt_m2 158 rfl rfl, List.forall_mem_cons.mpr ⟨zt_sel (q := (y_P_addPart, 11)) 20 rfl, List.forall_mem_cons.mpr ⟨zt_m1 5 rfl rfl, List.forall_mem_cons.mpr ⟨zt_m2 159 rfl rfl, fun _ h => absurd h List.not_mem_nil⟩⟩⟩⟩
theorem wn_P_blame : ∀ w ∈ zwVN y_P_blame prog_2_method_4_code 3 none, w ∈ zT := List.forall_mem_cons.mpr ⟨zt_m2 166 rfl rfl, List.forall_mem_cons.mpr ⟨zt_sel (q := (y_P_blame, 11)) 22 rfl, List.forall_mem_cons.mpr ⟨zt_m1 5 rfl rfl, List.forall_mem_cons.mpr ⟨zt_m2 167 rfl rfl, fun _ h => absurd h List.not_mem_nil⟩⟩⟩⟩
theorem wn_P_combine : ∀ w ∈ zwVN y_P_combine prog_2_method_17_code 6 none, w ∈ zT := List.forall_mem_cons.mpr ⟨zt_m3 0 rfl rfl, List.forall_mem_cons.mpr ⟨zt_sel (q := (y_P_combine, 11)) 37 rfl, List.forall_mem_cons.mpr ⟨zt_m1 5 rfl rfl, List.forall_mem_cons.mpr ⟨zt_m3 1 rfl rfl, fun _ h => absurd h List.not_mem_nil⟩⟩⟩⟩
theorem wn_P_endTerm : ∀ w ∈ zwVN y_P_endTerm prog_2_method_13_code 3 none, w ∈ zT := List.forall_mem_cons.mpr ⟨zt_m3 91 rfl rfl, List.forall_mem_cons.mpr ⟨zt_sel (q := (y_P_endTerm, 11)) 54 rfl, List.forall_mem_cons.mpr ⟨zt_m1 5 rfl rfl, List.forall_mem_cons.mpr ⟨zt_m3 92 rfl rfl, fun _ h => absurd h List.not_mem_nil⟩⟩⟩⟩
theorem wn_P_goesOn : ∀ w ∈ zwVN y_P_goesOn prog_2_method_11_code 3 (some .boolean), w ∈ zT := List.forall_mem_cons.mpr ⟨zt_m2 212 rfl rfl, List.forall_mem_cons.mpr ⟨zt_sel (q := (y_P_goesOn, 11)) 32 rfl, List.forall_mem_cons.mpr ⟨zt_m1 5 rfl rfl, List.forall_mem_cons.mpr ⟨zt_m2 213 rfl rfl, fun _ h => absurd h List.not_mem_nil⟩⟩⟩⟩
theorem wn_P_kindGiven : ∀ w ∈ zwVN y_P_kindGiven prog_2_method_19_code 5 (some .int), w ∈ zT := List.forall_mem_cons.mpr ⟨zt_m3 78 rfl rfl, List.forall_mem_cons.mpr ⟨zt_sel (q := (y_P_kindGiven, 11)) 51 rfl, List.forall_mem_cons.mpr ⟨zt_m1 5 rfl rfl, List.forall_mem_cons.mpr ⟨zt_m3 79 rfl rfl, fun _ h => absurd h List.not_mem_nil⟩⟩⟩⟩
theorem wn_P_kindsFit : ∀ w ∈ zwVN y_P_kindsFit prog_2_method_18_code 5 (some .boolean), w ∈ zT := List.forall_mem_cons.mpr ⟨zt_m3 30 rfl rfl, List.forall_mem_cons.mpr ⟨zt_sel (q := (y_P_kindsFit, 11)) 43 rfl, List.forall_mem_cons.mpr ⟨zt_m1 5 rfl rfl, List.forall_mem_cons.mpr ⟨zt_m3 31 rfl rfl, fun _ h => absurd h List.not_mem_nil⟩⟩⟩⟩
theorem wn_P_leastSettledBy : ∀ w ∈ zwSN y_P_leastSettledBy prog_2_method_12_code 2 (some .int), w ∈ zT := List.forall_mem_cons.mpr ⟨zt_m2 218 rfl rfl, List.forall_mem_cons.mpr ⟨zt_m1 5 rfl rfl, List.forall_mem_cons.mpr ⟨zt_m2 219 rfl rfl, fun _ h => absurd h List.not_mem_nil⟩⟩⟩
theorem wn_P_nest : ∀ w ∈ zwVN y_P_nest prog_2_method_8_code 3 none, w ∈ zT := List.forall_mem_cons.mpr ⟨zt_m2 197 rfl rfl, List.forall_mem_cons.mpr ⟨zt_sel (q := (y_P_nest, 11)) 29 rfl, List.forall_mem_cons.mpr ⟨zt_m1 5 rfl rfl, List.forall_mem_cons.mpr ⟨zt_m2 198 rfl rfl, fun _ h => absurd h List.not_mem_nil⟩⟩⟩⟩
theorem wn_P_popLoose : ∀ w ∈ zwVN y_P_popLoose prog_2_method_10_code 1 (some .int), w ∈ zT := List.forall_mem_cons.mpr ⟨zt_m3 13 rfl rfl, List.forall_mem_cons.mpr ⟨zt_sel (q := (y_P_popLoose, 11)) 40 rfl, List.forall_mem_cons.mpr ⟨zt_m1 5 rfl rfl, List.forall_mem_cons.mpr ⟨zt_m3 14 rfl rfl, fun _ h => absurd h List.not_mem_nil⟩⟩⟩⟩
theorem wn_P_read : ∀ w ∈ zwVN y_P_read prog_2_method_2_code 3 (some .int), w ∈ zT := List.forall_mem_cons.mpr ⟨zt_m2 32 rfl rfl, List.forall_mem_cons.mpr ⟨zt_sel (q := (y_P_read, 11)) 5 rfl, List.forall_mem_cons.mpr ⟨zt_m1 5 rfl rfl, List.forall_mem_cons.mpr ⟨zt_m2 33 rfl rfl, fun _ h => absurd h List.not_mem_nil⟩⟩⟩⟩
theorem wn_P_readBehindTerm : ∀ w ∈ zwVN y_P_readBehindTerm prog_2_method_14_code 4 none, w ∈ zT := List.forall_mem_cons.mpr ⟨zt_m3 99 rfl rfl, List.forall_mem_cons.mpr ⟨zt_sel (q := (y_P_readBehindTerm, 11)) 55 rfl, List.forall_mem_cons.mpr ⟨zt_m1 5 rfl rfl, List.forall_mem_cons.mpr ⟨zt_m3 100 rfl rfl, fun _ h => absurd h List.not_mem_nil⟩⟩⟩⟩
theorem wn_P_readBracket : ∀ w ∈ zwVN y_P_readBracket prog_2_method_7_code 1 none, w ∈ zT := List.forall_mem_cons.mpr ⟨zt_m2 208 rfl rfl, List.forall_mem_cons.mpr ⟨zt_sel (q := (y_P_readBracket, 11)) 31 rfl, List.forall_mem_cons.mpr ⟨zt_m1 5 rfl rfl, List.forall_mem_cons.mpr ⟨zt_m2 209 rfl rfl, fun _ h => absurd h List.not_mem_nil⟩⟩⟩⟩
theorem wn_P_readOperand : ∀ w ∈ zwVN y_P_readOperand prog_2_method_5_code 1 none, w ∈ zT := List.forall_mem_cons.mpr ⟨zt_m2 150 rfl rfl, List.forall_mem_cons.mpr ⟨zt_sel (q := (y_P_readOperand, 11)) 18 rfl, List.forall_mem_cons.mpr ⟨zt_m1 5 rfl rfl, List.forall_mem_cons.mpr ⟨zt_m2 151 rfl rfl, fun _ h => absurd h List.not_mem_nil⟩⟩⟩⟩
theorem wn_P_readVariable : ∀ w ∈ zwVN y_P_readVariable prog_2_method_6_code 2 none, w ∈ zT := List.forall_mem_cons.mpr ⟨zt_m2 183 rfl rfl, List.forall_mem_cons.mpr ⟨zt_sel (q := (y_P_readVariable, 11)) 26 rfl, List.forall_mem_cons.mpr ⟨zt_m1 5 rfl rfl, List.forall_mem_cons.mpr ⟨zt_m2 184 rfl rfl, fun _ h => absurd h List.not_mem_nil⟩⟩⟩⟩
theorem wn_P_restart : ∀ w ∈ zwVN y_P_restart prog_2_method_3_code 2 none, w ∈ zT := List.forall_mem_cons.mpr ⟨zt_m2 36 rfl rfl, List.forall_mem_cons.mpr ⟨zt_sel (q := (y_P_restart, 11)) 6 rfl, List.forall_mem_cons.mpr ⟨zt_m1 5 rfl rfl, List.forall_mem_cons.mpr ⟨zt_m2 37 rfl rfl, fun _ h => absurd h List.not_mem_nil⟩⟩⟩⟩
theorem wn_P_settle : ∀ w ∈ zwVN y_P_settle prog_2_method_16_code 3 none, w ∈ zT := List.forall_mem_cons.mpr ⟨zt_m2 222 rfl rfl, List.forall_mem_cons.mpr ⟨zt_sel (q := (y_P_settle, 11)) 33 rfl, List.forall_mem_cons.mpr ⟨zt_m1 5 rfl rfl, List.forall_mem_cons.mpr ⟨zt_m2 223 rfl rfl, fun _ h => absurd h List.not_mem_nil⟩⟩⟩⟩
theorem wn_P_tokenDue : ∀ w ∈ zwSN y_P_tokenDue prog_2_method_15_code 2 (some .int), w ∈ zT := List.forall_mem_cons.mpr ⟨zt_m3 102 rfl rfl, List.forall_mem_cons.mpr ⟨zt_m1 5 rfl rfl, List.forall_mem_cons.mpr ⟨zt_m3 103 rfl rfl, fun _ h => absurd h List.not_mem_nil⟩⟩⟩
theorem wn_R_at : ∀ w ∈ zwSN y_R_at prog_1_method_10_code 2 (some .int), w ∈ zT := List.forall_mem_cons.mpr ⟨zt_m2 63 rfl rfl, List.forall_mem_cons.mpr ⟨zt_m1 1 rfl rfl, List.forall_mem_cons.mpr ⟨zt_m2 64 rfl rfl, fun _ h => absurd h List.not_mem_nil⟩⟩⟩
theorem wn_R_divides : ∀ w ∈ zwSN y_R_divides prog_1_method_14_code 1 (some .boolean), w ∈ zT := List.forall_mem_cons.mpr ⟨zt_m3 37 rfl rfl, List.forall_mem_cons.mpr ⟨zt_m1 1 rfl rfl, List.forall_mem_cons.mpr ⟨zt_m3 38 rfl rfl, fun _ h => absurd h List.not_mem_nil⟩⟩⟩
theorem wn_R_isDigit : ∀ w ∈ zwSN y_R_isDigit prog_1_method_11_code 1 (some .boolean), w ∈ zT := List.forall_mem_cons.mpr ⟨zt_m2 66 rfl rfl, List.forall_mem_cons.mpr ⟨zt_m1 1 rfl rfl, List.forall_mem_cons.mpr ⟨zt_m2 67 rfl rfl, fun _ h => absurd h List.not_mem_nil⟩⟩⟩
theorem wn_R_isFunction : ∀ w ∈ zwSN y_R_isFunction prog_1_method_13_code 1 (some .boolean), w ∈ zT := List.forall_mem_cons.mpr ⟨zt_m3 95 rfl rfl, List.forall_mem_cons.mpr ⟨zt_m1 1 rfl rfl, List.forall_mem_cons.mpr ⟨zt_m3 96 rfl rfl, fun _ h => absurd h List.not_mem_nil⟩⟩⟩
theorem wn_R_strengthOf : ∀ w ∈ zwSN y_R_strengthOf prog_1_method_15_code 1 (some .int), w ∈ zT := List.forall_mem_cons.mpr ⟨zt_m2 215 rfl rfl, List.forall_mem_cons.mpr ⟨zt_m1 1 rfl rfl, List.forall_mem_cons.mpr ⟨zt_m2 216 rfl rfl, fun _ h => absurd h List.not_mem_nil⟩⟩⟩
theorem wn_R_takesOne : ∀ w ∈ zwSN y_R_takesOne prog_1_method_12_code 1 (some .boolean), w ∈ zT := List.forall_mem_cons.mpr ⟨zt_m3 17 rfl rfl, List.forall_mem_cons.mpr ⟨zt_m1 1 rfl rfl, List.forall_mem_cons.mpr ⟨zt_m3 18 rfl rfl, fun _ h => absurd h List.not_mem_nil⟩⟩⟩
theorem wn_T_add : ∀ w ∈ zwVN y_T_add prog_6_method_10_code 5 none, w ∈ zT := List.forall_mem_cons.mpr ⟨zt_m2 170 rfl rfl, List.forall_mem_cons.mpr ⟨zt_sel (q := (y_T_add, 11)) 23 rfl, List.forall_mem_cons.mpr ⟨zt_m1 4 rfl rfl, List.forall_mem_cons.mpr ⟨zt_m2 171 rfl rfl, fun _ h => absurd h List.not_mem_nil⟩⟩⟩⟩
theorem wn_T_clear : ∀ w ∈ zwVN y_T_clear prog_6_method_2_code 1 none, w ∈ zT := List.forall_mem_cons.mpr ⟨zt_m2 40 rfl rfl, List.forall_mem_cons.mpr ⟨zt_sel (q := (y_T_clear, 11)) 7 rfl, List.forall_mem_cons.mpr ⟨zt_m1 4 rfl rfl, List.forall_mem_cons.mpr ⟨zt_m2 41 rfl rfl, fun _ h => absurd h List.not_mem_nil⟩⟩⟩⟩
theorem wn_T_depthOf : ∀ w ∈ zwVN y_T_depthOf prog_6_method_9_code 2 (some .int), w ∈ zT := List.forall_mem_cons.mpr ⟨zt_m3 86 rfl rfl, List.forall_mem_cons.mpr ⟨zt_sel (q := (y_T_depthOf, 11)) 53 rfl, List.forall_mem_cons.mpr ⟨zt_m1 4 rfl rfl, List.forall_mem_cons.mpr ⟨zt_m3 87 rfl rfl, fun _ h => absurd h List.not_mem_nil⟩⟩⟩⟩
theorem wn_T_has : ∀ w ∈ zwVN y_T_has prog_6_method_3_code 2 (some .boolean), w ∈ zT := List.forall_mem_cons.mpr ⟨zt_m2 179 rfl rfl, List.forall_mem_cons.mpr ⟨zt_sel (q := (y_T_has, 11)) 25 rfl, List.forall_mem_cons.mpr ⟨zt_m1 4 rfl rfl, List.forall_mem_cons.mpr ⟨zt_m2 180 rfl rfl, fun _ h => absurd h List.not_mem_nil⟩⟩⟩⟩
theorem wn_T_highOf : ∀ w ∈ zwVN y_T_highOf prog_6_method_8_code 2 (some .int), w ∈ zT := List.forall_mem_cons.mpr ⟨zt_m3 26 rfl rfl, List.forall_mem_cons.mpr ⟨zt_sel (q := (y_T_highOf, 11)) 42 rfl, List.forall_mem_cons.mpr ⟨zt_m1 4 rfl rfl, List.forall_mem_cons.mpr ⟨zt_m3 27 rfl rfl, fun _ h => absurd h List.not_mem_nil⟩⟩⟩⟩
theorem wn_T_isFull : ∀ w ∈ zwVN y_T_isFull prog_6_method_4_code 1 (some .boolean), w ∈ zT := List.forall_mem_cons.mpr ⟨zt_m2 162 rfl rfl, List.forall_mem_cons.mpr ⟨zt_sel (q := (y_T_isFull, 11)) 21 rfl, List.forall_mem_cons.mpr ⟨zt_m1 4 rfl rfl, List.forall_mem_cons.mpr ⟨zt_m2 163 rfl rfl, fun _ h => absurd h List.not_mem_nil⟩⟩⟩⟩
theorem wn_T_isTrue : ∀ w ∈ zwSN y_T_isTrue prog_6_method_17_code 5 (some .boolean), w ∈ zT := List.forall_mem_cons.mpr ⟨zt_m3 233 rfl rfl, List.forall_mem_cons.mpr ⟨zt_m1 4 rfl rfl, List.forall_mem_cons.mpr ⟨zt_m3 234 rfl rfl, fun _ h => absurd h List.not_mem_nil⟩⟩⟩
theorem wn_T_kindOf : ∀ w ∈ zwVN y_T_kindOf prog_6_method_6_code 2 (some .int), w ∈ zT := List.forall_mem_cons.mpr ⟨zt_m3 34 rfl rfl, List.forall_mem_cons.mpr ⟨zt_sel (q := (y_T_kindOf, 11)) 44 rfl, List.forall_mem_cons.mpr ⟨zt_m1 4 rfl rfl, List.forall_mem_cons.mpr ⟨zt_m3 35 rfl rfl, fun _ h => absurd h List.not_mem_nil⟩⟩⟩⟩
theorem wn_T_lowOf : ∀ w ∈ zwVN y_T_lowOf prog_6_method_7_code 2 (some .int), w ∈ zT := List.forall_mem_cons.mpr ⟨zt_m3 21 rfl rfl, List.forall_mem_cons.mpr ⟨zt_sel (q := (y_T_lowOf, 11)) 41 rfl, List.forall_mem_cons.mpr ⟨zt_m1 4 rfl rfl, List.forall_mem_cons.mpr ⟨zt_m3 22 rfl rfl, fun _ h => absurd h List.not_mem_nil⟩⟩⟩⟩
theorem wn_T_numberOf : ∀ w ∈ zwSN y_T_numberOf prog_6_method_16_code 5 (some .long), w ∈ zT := List.forall_mem_cons.mpr ⟨zt_m3 227 rfl rfl, List.forall_mem_cons.mpr ⟨zt_m1 4 rfl rfl, List.forall_mem_cons.mpr ⟨zt_m3 228 rfl rfl, fun _ h => absurd h List.not_mem_nil⟩⟩⟩
theorem wn_T_placeOf : ∀ w ∈ zwVN y_T_placeOf prog_6_method_5_code 2 (some .int), w ∈ zT := List.forall_mem_cons.mpr ⟨zt_m3 120 rfl rfl, List.forall_mem_cons.mpr ⟨zt_sel (q := (y_T_placeOf, 11)) 58 rfl, List.forall_mem_cons.mpr ⟨zt_m1 4 rfl rfl, List.forall_mem_cons.mpr ⟨zt_m3 121 rfl rfl, fun _ h => absurd h List.not_mem_nil⟩⟩⟩⟩
theorem wn_T_tellRange : ∀ w ∈ zwVN y_T_tellRange prog_6_method_11_code 6 none, w ∈ zT := List.forall_mem_cons.mpr ⟨zt_m2 175 rfl rfl, List.forall_mem_cons.mpr ⟨zt_sel (q := (y_T_tellRange, 11)) 24 rfl, List.forall_mem_cons.mpr ⟨zt_m1 4 rfl rfl, List.forall_mem_cons.mpr ⟨zt_m2 176 rfl rfl, fun _ h => absurd h List.not_mem_nil⟩⟩⟩⟩
theorem wn_T_tellTaken : ∀ w ∈ zwVN y_T_tellTaken prog_6_method_12_code 5 none, w ∈ zT := List.forall_mem_cons.mpr ⟨zt_m3 82 rfl rfl, List.forall_mem_cons.mpr ⟨zt_sel (q := (y_T_tellTaken, 11)) 52 rfl, List.forall_mem_cons.mpr ⟨zt_m1 4 rfl rfl, List.forall_mem_cons.mpr ⟨zt_m3 83 rfl rfl, fun _ h => absurd h List.not_mem_nil⟩⟩⟩⟩
theorem wn_T_work : ∀ w ∈ zwVN y_T_work prog_6_method_15_code 8 (some .long), w ∈ zT := List.forall_mem_cons.mpr ⟨zt_m3 214 rfl rfl, List.forall_mem_cons.mpr ⟨zt_sel (q := (y_T_work, 11)) 61 rfl, List.forall_mem_cons.mpr ⟨zt_m1 4 rfl rfl, List.forall_mem_cons.mpr ⟨zt_m3 215 rfl rfl, fun _ h => absurd h List.not_mem_nil⟩⟩⟩⟩
theorem wn_T_workedOut : ∀ w ∈ zwVN y_T_workedOut prog_6_method_14_code 2 (some .long), w ∈ zT := List.forall_mem_cons.mpr ⟨zt_m3 218 rfl rfl, List.forall_mem_cons.mpr ⟨zt_sel (q := (y_T_workedOut, 11)) 62 rfl, List.forall_mem_cons.mpr ⟨zt_m1 4 rfl rfl, List.forall_mem_cons.mpr ⟨zt_m3 219 rfl rfl, fun _ h => absurd h List.not_mem_nil⟩⟩⟩⟩
theorem wn_V_add : ∀ w ∈ zwVN y_V_add prog_8_method_3_code 3 (some .int), w ∈ zT := List.forall_mem_cons.mpr ⟨zt_m1 232 rfl rfl, List.forall_mem_cons.mpr ⟨zt_sel (q := (y_V_add, 4)) 0 rfl, List.forall_mem_cons.mpr ⟨zt_m1 2 rfl rfl, List.forall_mem_cons.mpr ⟨zt_m1 233 rfl rfl, fun _ h => absurd h List.not_mem_nil⟩⟩⟩⟩
theorem wn_V_has : ∀ w ∈ zwVN y_V_has prog_8_method_2_code 2 (some .boolean), w ∈ zT := List.forall_mem_cons.mpr ⟨zt_m2 12 rfl rfl, List.forall_mem_cons.mpr ⟨zt_sel (q := (y_V_has, 4)) 2 rfl, List.forall_mem_cons.mpr ⟨zt_m1 2 rfl rfl, List.forall_mem_cons.mpr ⟨zt_m2 13 rfl rfl, fun _ h => absurd h List.not_mem_nil⟩⟩⟩⟩
theorem wn_V_highOf : ∀ w ∈ zwVN y_V_highOf prog_8_method_6_code 2 (some .int), w ∈ zT := List.forall_mem_cons.mpr ⟨zt_m2 193 rfl rfl, List.forall_mem_cons.mpr ⟨zt_sel (q := (y_V_highOf, 4)) 28 rfl, List.forall_mem_cons.mpr ⟨zt_m1 2 rfl rfl, List.forall_mem_cons.mpr ⟨zt_m2 194 rfl rfl, fun _ h => absurd h List.not_mem_nil⟩⟩⟩⟩
theorem wn_V_lowOf : ∀ w ∈ zwVN y_V_lowOf prog_8_method_5_code 2 (some .int), w ∈ zT := List.forall_mem_cons.mpr ⟨zt_m2 188 rfl rfl, List.forall_mem_cons.mpr ⟨zt_sel (q := (y_V_lowOf, 4)) 27 rfl, List.forall_mem_cons.mpr ⟨zt_m1 2 rfl rfl, List.forall_mem_cons.mpr ⟨zt_m2 189 rfl rfl, fun _ h => absurd h List.not_mem_nil⟩⟩⟩⟩
theorem wn_V_set : ∀ w ∈ zwVN y_V_set prog_8_method_4_code 3 (some .boolean), w ∈ zT := List.forall_mem_cons.mpr ⟨zt_m2 8 rfl rfl, List.forall_mem_cons.mpr ⟨zt_sel (q := (y_V_set, 4)) 1 rfl, List.forall_mem_cons.mpr ⟨zt_m1 2 rfl rfl, List.forall_mem_cons.mpr ⟨zt_m2 9 rfl rfl, fun _ h => absurd h List.not_mem_nil⟩⟩⟩⟩
theorem wn_V_worthOf : ∀ w ∈ zwVN y_V_worthOf prog_8_method_7_code 2 (some .int), w ∈ zT := List.forall_mem_cons.mpr ⟨zt_m3 223 rfl rfl, List.forall_mem_cons.mpr ⟨zt_sel (q := (y_V_worthOf, 4)) 63 rfl, List.forall_mem_cons.mpr ⟨zt_m1 2 rfl rfl, List.forall_mem_cons.mpr ⟨zt_m3 224 rfl rfl, fun _ h => absurd h List.not_mem_nil⟩⟩⟩⟩
theorem kc_V_25 : Jvm.Cond.constant "RangeReckoner$Variables" 25 (-2000000000) ∈ zT := zt_m1 234 rfl rfl
theorem kc_V_26 : Jvm.Cond.constant "RangeReckoner$Variables" 26 2000000000 ∈ zT := zt_m1 235 rfl rfl
theorem kl_K_56 : Jvm.Cond.constantLong "RangeReckoner$Tokens" 56 10 ∈ zT := zt_m2 72 rfl rfl
theorem kl_K_58 : Jvm.Cond.constantLong "RangeReckoner$Tokens" 58 2000000000 ∈ zT := zt_m2 73 rfl rfl
theorem kl_M_75 : Jvm.Cond.constantLong "RangeReckonerModel" 75 (-2000000000) ∈ zT := zt_m4 115 rfl rfl
theorem kl_M_77 : Jvm.Cond.constantLong "RangeReckonerModel" 77 2000000000 ∈ zT := zt_m4 116 rfl rfl
theorem kl_M_110 : Jvm.Cond.constantLong "RangeReckonerModel" 110 10 ∈ zT := zt_m4 144 rfl rfl
theorem kl_M_112 : Jvm.Cond.constantLong "RangeReckonerModel" 112 48 ∈ zT := zt_m4 145 rfl rfl
theorem kl_M_223 : Jvm.Cond.constantLong "RangeReckonerModel" 223 (-1) ∈ zT := zt_m5 9 rfl rfl
theorem kl_N_18 : Jvm.Cond.constantLong "RangeReckoner$Range" 18 (-2000000000) ∈ zT := zt_m3 74 rfl rfl
theorem kl_N_20 : Jvm.Cond.constantLong "RangeReckoner$Range" 20 2000000000 ∈ zT := zt_m3 75 rfl rfl
theorem kl_R_95 : Jvm.Cond.constantLong "RangeReckoner" 95 (-1) ∈ zT := zt_m3 129 rfl rfl
theorem fl_A_9 : Cond.fieldLink "RangeReckoner$Tape" 9 "RangeReckoner$Tape" "signs" "[I" ∈ zT := zt_m1 54 rfl rfl
theorem fl_A_15 : Cond.fieldLink "RangeReckoner$Tape" 15 "RangeReckoner$Tape" "length" "I" ∈ zT := zt_m1 55 rfl rfl
theorem fl_G_9 : Cond.fieldLink "RangeReckoner$Pending" 9 "RangeReckoner$Pending" "code" "[I" ∈ zT := zt_m1 118 rfl rfl
theorem fl_G_15 : Cond.fieldLink "RangeReckoner$Pending" 15 "RangeReckoner$Pending" "place" "[I" ∈ zT := zt_m1 119 rfl rfl
theorem fl_G_18 : Cond.fieldLink "RangeReckoner$Pending" 18 "RangeReckoner$Pending" "awaited" "[I" ∈ zT := zt_m1 120 rfl rfl
theorem fl_G_21 : Cond.fieldLink "RangeReckoner$Pending" 21 "RangeReckoner$Pending" "size" "I" ∈ zT := zt_m1 121 rfl rfl
theorem fl_G_25 : Cond.fieldLink "RangeReckoner$Pending" 25 "RangeReckoner$Pending" "nested" "I" ∈ zT := zt_m1 123 rfl rfl
theorem fl_K_9 : Cond.fieldLink "RangeReckoner$Tokens" 9 "RangeReckoner$Tokens" "next" "I" ∈ zT := zt_m1 158 rfl rfl
theorem fl_K_15 : Cond.fieldLink "RangeReckoner$Tokens" 15 "RangeReckoner$Tokens" "token" "I" ∈ zT := zt_m1 159 rfl rfl
theorem fl_K_18 : Cond.fieldLink "RangeReckoner$Tokens" 18 "RangeReckoner$Tokens" "place" "I" ∈ zT := zt_m1 161 rfl rfl
theorem fl_K_21 : Cond.fieldLink "RangeReckoner$Tokens" 21 "RangeReckoner$Tokens" "number" "I" ∈ zT := zt_m1 163 rfl rfl
theorem fl_K_24 : Cond.fieldLink "RangeReckoner$Tokens" 24 "RangeReckoner$Tokens" "tape" "LRangeReckoner$Tape;" ∈ zT := zt_m1 157 rfl rfl
theorem fl_M_7 : Cond.fieldLink "RangeReckonerModel" 7 "RangeReckonerModel" "low" "[I" ∈ zT := zt_m4 3 rfl rfl
theorem fl_M_13 : Cond.fieldLink "RangeReckonerModel" 13 "RangeReckonerModel" "high" "[I" ∈ zT := zt_m4 4 rfl rfl
theorem fl_M_16 : Cond.fieldLink "RangeReckonerModel" 16 "RangeReckonerModel" "given" "[I" ∈ zT := zt_m4 5 rfl rfl
theorem fl_M_19 : Cond.fieldLink "RangeReckonerModel" 19 "RangeReckonerModel" "tape" "[I" ∈ zT := zt_m4 6 rfl rfl
theorem fl_M_22 : Cond.fieldLink "RangeReckonerModel" 22 "RangeReckonerModel" "ptOp" "[I" ∈ zT := zt_m4 13 rfl rfl
theorem fl_M_25 : Cond.fieldLink "RangeReckonerModel" 25 "RangeReckonerModel" "ptPlace" "[I" ∈ zT := zt_m4 14 rfl rfl
theorem fl_M_28 : Cond.fieldLink "RangeReckonerModel" 28 "RangeReckonerModel" "ptKind" "[I" ∈ zT := zt_m4 15 rfl rfl
theorem fl_M_31 : Cond.fieldLink "RangeReckonerModel" 31 "RangeReckonerModel" "ptLow" "[J" ∈ zT := zt_m4 16 rfl rfl
theorem fl_M_35 : Cond.fieldLink "RangeReckonerModel" 35 "RangeReckonerModel" "ptHigh" "[J" ∈ zT := zt_m4 17 rfl rfl
theorem fl_M_38 : Cond.fieldLink "RangeReckonerModel" 38 "RangeReckonerModel" "ptA" "[I" ∈ zT := zt_m4 18 rfl rfl
theorem fl_M_41 : Cond.fieldLink "RangeReckonerModel" 41 "RangeReckonerModel" "ptB" "[I" ∈ zT := zt_m4 19 rfl rfl
theorem fl_M_44 : Cond.fieldLink "RangeReckonerModel" 44 "RangeReckonerModel" "ptC" "[I" ∈ zT := zt_m4 20 rfl rfl
theorem fl_M_47 : Cond.fieldLink "RangeReckonerModel" 47 "RangeReckonerModel" "ptDeep" "[I" ∈ zT := zt_m4 21 rfl rfl
theorem fl_M_50 : Cond.fieldLink "RangeReckonerModel" 50 "RangeReckonerModel" "ptNumber" "[J" ∈ zT := zt_m4 22 rfl rfl
theorem fl_M_53 : Cond.fieldLink "RangeReckonerModel" 53 "RangeReckonerModel" "wtOp" "[I" ∈ zT := zt_m4 26 rfl rfl
theorem fl_M_56 : Cond.fieldLink "RangeReckonerModel" 56 "RangeReckonerModel" "wtPlace" "[I" ∈ zT := zt_m4 27 rfl rfl
theorem fl_M_59 : Cond.fieldLink "RangeReckonerModel" 59 "RangeReckonerModel" "wtRead" "[I" ∈ zT := zt_m4 28 rfl rfl
theorem fl_M_62 : Cond.fieldLink "RangeReckonerModel" 62 "RangeReckonerModel" "pile" "[I" ∈ zT := zt_m4 30 rfl rfl
theorem fl_M_65 : Cond.fieldLink "RangeReckonerModel" 65 "RangeReckonerModel" "worth" "[J" ∈ zT := zt_m4 35 rfl rfl
theorem fl_M_68 : Cond.fieldLink "RangeReckonerModel" 68 "RangeReckonerModel" "thrown" "I" ∈ zT := zt_m4 1 rfl rfl
theorem fl_M_72 : Cond.fieldLink "RangeReckonerModel" 72 "RangeReckonerModel" "variables" "I" ∈ zT := zt_m4 2 rfl rfl
theorem fl_M_83 : Cond.fieldLink "RangeReckonerModel" 83 "RangeReckonerModel" "taped" "I" ∈ zT := zt_m4 7 rfl rfl
theorem fl_M_86 : Cond.fieldLink "RangeReckonerModel" 86 "RangeReckonerModel" "size" "I" ∈ zT := zt_m4 8 rfl rfl
theorem fl_M_93 : Cond.fieldLink "RangeReckonerModel" 93 "RangeReckonerModel" "from" "I" ∈ zT := zt_m4 10 rfl rfl
theorem fl_M_96 : Cond.fieldLink "RangeReckonerModel" 96 "RangeReckonerModel" "to" "I" ∈ zT := zt_m4 11 rfl rfl
theorem fl_M_99 : Cond.fieldLink "RangeReckonerModel" 99 "RangeReckonerModel" "number" "J" ∈ zT := zt_m4 12 rfl rfl
theorem fl_M_103 : Cond.fieldLink "RangeReckonerModel" 103 "RangeReckonerModel" "tk" "I" ∈ zT := zt_m4 9 rfl rfl
theorem fl_M_118 : Cond.fieldLink "RangeReckonerModel" 118 "RangeReckonerModel" "fault" "I" ∈ zT := zt_m4 25 rfl rfl
theorem fl_M_121 : Cond.fieldLink "RangeReckonerModel" 121 "RangeReckonerModel" "read" "I" ∈ zT := zt_m4 23 rfl rfl
theorem fl_M_128 : Cond.fieldLink "RangeReckonerModel" 128 "RangeReckonerModel" "waits" "I" ∈ zT := zt_m4 29 rfl rfl
theorem fl_M_131 : Cond.fieldLink "RangeReckonerModel" 131 "RangeReckonerModel" "deep" "I" ∈ zT := zt_m4 32 rfl rfl
theorem fl_M_137 : Cond.fieldLink "RangeReckonerModel" 137 "RangeReckonerModel" "piled" "I" ∈ zT := zt_m4 31 rfl rfl
theorem fl_M_144 : Cond.fieldLink "RangeReckonerModel" 144 "RangeReckonerModel" "least" "J" ∈ zT := zt_m4 33 rfl rfl
theorem fl_M_150 : Cond.fieldLink "RangeReckonerModel" 150 "RangeReckonerModel" "greatest" "J" ∈ zT := zt_m4 34 rfl rfl
theorem fl_M_212 : Cond.fieldLink "RangeReckonerModel" 212 "RangeReckonerModel" "many" "I" ∈ zT := zt_m4 24 rfl rfl
theorem fl_N_9 : Cond.fieldLink "RangeReckoner$Range" 9 "RangeReckoner$Range" "low" "J" ∈ zT := zt_m1 142 rfl rfl
theorem fl_N_15 : Cond.fieldLink "RangeReckoner$Range" 15 "RangeReckoner$Range" "high" "J" ∈ zT := zt_m1 144 rfl rfl
theorem fl_P_12 : Cond.fieldLink "RangeReckoner$Parser" 12 "RangeReckoner$Parser" "pending" "LRangeReckoner$Pending;" ∈ zT := zt_m1 178 rfl rfl
theorem fl_P_18 : Cond.fieldLink "RangeReckoner$Parser" 18 "RangeReckoner$Parser" "loose" "[I" ∈ zT := zt_m1 179 rfl rfl
theorem fl_P_22 : Cond.fieldLink "RangeReckoner$Parser" 22 "RangeReckoner$Parser" "looseSize" "I" ∈ zT := zt_m1 180 rfl rfl
theorem fl_P_29 : Cond.fieldLink "RangeReckoner$Parser" 29 "RangeReckoner$Parser" "first" "LRangeReckoner$Range;" ∈ zT := zt_m1 181 rfl rfl
theorem fl_P_33 : Cond.fieldLink "RangeReckoner$Parser" 33 "RangeReckoner$Parser" "second" "LRangeReckoner$Range;" ∈ zT := zt_m1 182 rfl rfl
theorem fl_P_36 : Cond.fieldLink "RangeReckoner$Parser" 36 "RangeReckoner$Parser" "given" "LRangeReckoner$Range;" ∈ zT := zt_m1 183 rfl rfl
theorem fl_P_39 : Cond.fieldLink "RangeReckoner$Parser" 39 "RangeReckoner$Parser" "wanted" "I" ∈ zT := zt_m1 185 rfl rfl
theorem fl_P_42 : Cond.fieldLink "RangeReckoner$Parser" 42 "RangeReckoner$Parser" "fault" "I" ∈ zT := zt_m1 186 rfl rfl
theorem fl_P_45 : Cond.fieldLink "RangeReckoner$Parser" 45 "RangeReckoner$Parser" "variables" "LRangeReckoner$Variables;" ∈ zT := zt_m1 176 rfl rfl
theorem fl_P_54 : Cond.fieldLink "RangeReckoner$Parser" 54 "RangeReckoner$Parser" "tokens" "LRangeReckoner$Tokens;" ∈ zT := zt_m1 177 rfl rfl
theorem fl_P_58 : Cond.fieldLink "RangeReckoner$Parser" 58 "RangeReckoner$Parser" "term" "LRangeReckoner$Term;" ∈ zT := zt_m1 184 rfl rfl
theorem fl_R_12 : Cond.fieldLink "RangeReckoner" 12 "RangeReckoner" "variables" "LRangeReckoner$Variables;" ∈ zT := zt_m1 210 rfl rfl
theorem fl_R_19 : Cond.fieldLink "RangeReckoner" 19 "RangeReckoner" "tape" "LRangeReckoner$Tape;" ∈ zT := zt_m1 211 rfl rfl
theorem fl_R_26 : Cond.fieldLink "RangeReckoner" 26 "RangeReckoner" "term" "LRangeReckoner$Term;" ∈ zT := zt_m1 213 rfl rfl
theorem fl_R_30 : Cond.fieldLink "RangeReckoner" 30 "RangeReckoner" "spare" "LRangeReckoner$Term;" ∈ zT := zt_m1 214 rfl rfl
theorem fl_R_38 : Cond.fieldLink "RangeReckoner" 38 "RangeReckoner" "parser" "LRangeReckoner$Parser;" ∈ zT := zt_m1 212 rfl rfl
theorem fl_T_9 : Cond.fieldLink "RangeReckoner$Term" 9 "RangeReckoner$Term" "operator" "[I" ∈ zT := zt_m1 69 rfl rfl
theorem fl_T_15 : Cond.fieldLink "RangeReckoner$Term" 15 "RangeReckoner$Term" "place" "[I" ∈ zT := zt_m1 70 rfl rfl
theorem fl_T_18 : Cond.fieldLink "RangeReckoner$Term" 18 "RangeReckoner$Term" "kind" "[I" ∈ zT := zt_m1 71 rfl rfl
theorem fl_T_21 : Cond.fieldLink "RangeReckoner$Term" 21 "RangeReckoner$Term" "low" "[I" ∈ zT := zt_m1 72 rfl rfl
theorem fl_T_24 : Cond.fieldLink "RangeReckoner$Term" 24 "RangeReckoner$Term" "high" "[I" ∈ zT := zt_m1 73 rfl rfl
theorem fl_T_27 : Cond.fieldLink "RangeReckoner$Term" 27 "RangeReckoner$Term" "left" "[I" ∈ zT := zt_m1 74 rfl rfl
theorem fl_T_30 : Cond.fieldLink "RangeReckoner$Term" 30 "RangeReckoner$Term" "right" "[I" ∈ zT := zt_m1 75 rfl rfl
theorem fl_T_33 : Cond.fieldLink "RangeReckoner$Term" 33 "RangeReckoner$Term" "extra" "[I" ∈ zT := zt_m1 76 rfl rfl
theorem fl_T_36 : Cond.fieldLink "RangeReckoner$Term" 36 "RangeReckoner$Term" "depth" "[I" ∈ zT := zt_m1 77 rfl rfl
theorem fl_T_39 : Cond.fieldLink "RangeReckoner$Term" 39 "RangeReckoner$Term" "worth" "[J" ∈ zT := zt_m1 78 rfl rfl
theorem fl_T_43 : Cond.fieldLink "RangeReckoner$Term" 43 "RangeReckoner$Term" "size" "I" ∈ zT := zt_m1 79 rfl rfl
theorem fl_V_9 : Cond.fieldLink "RangeReckoner$Variables" 9 "RangeReckoner$Variables" "low" "[I" ∈ zT := zt_m1 33 rfl rfl
theorem fl_V_15 : Cond.fieldLink "RangeReckoner$Variables" 15 "RangeReckoner$Variables" "high" "[I" ∈ zT := zt_m1 34 rfl rfl
theorem fl_V_18 : Cond.fieldLink "RangeReckoner$Variables" 18 "RangeReckoner$Variables" "worth" "[I" ∈ zT := zt_m1 35 rfl rfl
theorem fl_V_21 : Cond.fieldLink "RangeReckoner$Variables" 21 "RangeReckoner$Variables" "size" "I" ∈ zT := zt_m1 36 rfl rfl
theorem fn_K_53 : Cond.fieldLinkNest "RangeReckoner$Tokens" 53 "RangeReckoner$Tape" "length" "I" "RangeReckoner" ∈ xN := List.mem_of_getElem? (i := 3) (by decide +kernel)
theorem fn_P_90 : Cond.fieldLinkNest "RangeReckoner$Parser" 90 "RangeReckoner$Tokens" "token" "I" "RangeReckoner" ∈ xN := List.mem_of_getElem? (i := 16) (by decide +kernel)
theorem fn_P_93 : Cond.fieldLinkNest "RangeReckoner$Parser" 93 "RangeReckoner$Tokens" "number" "I" "RangeReckoner" ∈ xN := List.mem_of_getElem? (i := 18) (by decide +kernel)
theorem fn_P_100 : Cond.fieldLinkNest "RangeReckoner$Parser" 100 "RangeReckoner$Tokens" "place" "I" "RangeReckoner" ∈ xN := List.mem_of_getElem? (i := 17) (by decide +kernel)
theorem fn_P_130 : Cond.fieldLinkNest "RangeReckoner$Parser" 130 "RangeReckoner$Pending" "nested" "I" "RangeReckoner" ∈ xN := List.mem_of_getElem? (i := 11) (by decide +kernel)
theorem fn_P_142 : Cond.fieldLinkNest "RangeReckoner$Parser" 142 "RangeReckoner$Range" "low" "J" "RangeReckoner" ∈ xN := List.mem_of_getElem? (i := 13) (by decide +kernel)
theorem fn_P_146 : Cond.fieldLinkNest "RangeReckoner$Parser" 146 "RangeReckoner$Range" "high" "J" "RangeReckoner" ∈ xN := List.mem_of_getElem? (i := 14) (by decide +kernel)
theorem fn_P_152 : Cond.fieldLinkNest "RangeReckoner$Parser" 152 "RangeReckoner$Term" "size" "I" "RangeReckoner" ∈ xN := List.mem_of_getElem? (i := 7) (by decide +kernel)
theorem fn_P_199 : Cond.fieldLinkNest "RangeReckoner$Parser" 199 "RangeReckoner$Pending" "size" "I" "RangeReckoner" ∈ xN := List.mem_of_getElem? (i := 10) (by decide +kernel)
theorem fn_R_53 : Cond.fieldLinkNest "RangeReckoner" 53 "RangeReckoner$Tape" "length" "I" "RangeReckoner" ∈ xN := List.mem_of_getElem? (i := 4) (by decide +kernel)
theorem fn_R_92 : Cond.fieldLinkNest "RangeReckoner" 92 "RangeReckoner$Term" "size" "I" "RangeReckoner" ∈ xN := List.mem_of_getElem? (i := 6) (by decide +kernel)
theorem fn_R_97 : Cond.fieldLinkNest "RangeReckoner" 97 "RangeReckoner$Variables" "size" "I" "RangeReckoner" ∈ xN := List.mem_of_getElem? (i := 1) (by decide +kernel)
theorem ml_N_34 : Cond.methodLink "RangeReckoner$Range" 34 Lib.MathLoose.min_long.x ∈ zT := zt_m3 52 rfl rfl
theorem ml_N_40 : Cond.methodLink "RangeReckoner$Range" 40 Lib.MathLoose.max_long.x ∈ zT := zt_m3 55 rfl rfl
theorem ml_N_47 : Cond.methodLink "RangeReckoner$Range" 47 Lib.MathLoose.abs_long.x ∈ zT := zt_m3 62 rfl rfl
theorem ml_T_63 : Cond.methodLink "RangeReckoner$Term" 63 Lib.Math.max.name ∈ zT := zt_m3 88 rfl rfl
theorem ml_T_96 : Cond.methodLink "RangeReckoner$Term" 96 Lib.MathLoose.min_long.x ∈ zT := zt_m3 229 rfl rfl
theorem ml_T_100 : Cond.methodLink "RangeReckoner$Term" 100 Lib.MathLoose.max_long.x ∈ zT := zt_m3 230 rfl rfl
theorem ml_T_102 : Cond.methodLink "RangeReckoner$Term" 102 Lib.MathLoose.abs_long.x ∈ zT := zt_m3 231 rfl rfl
theorem ml_V_27 : Cond.methodLink "RangeReckoner$Variables" 27 Lib.Math.min.name ∈ zT := zt_m1 236 rfl rfl
theorem ml_V_33 : Cond.methodLink "RangeReckoner$Variables" 33 Lib.Math.max.name ∈ zT := zt_m1 239 rfl rfl
theorem nl_A_19 : Cond.methodLinkNest "RangeReckoner$Tape" 19 y_R_at "RangeReckoner" ∈ xN := List.mem_of_getElem? (i := 28) (by decide +kernel)
theorem nl_G_36 : Cond.methodLinkNest "RangeReckoner$Pending" 36 y_R_at "RangeReckoner" ∈ xN := List.mem_of_getElem? (i := 42) (by decide +kernel)
theorem nl_G_43 : Cond.methodLinkNest "RangeReckoner$Pending" 43 y_R_strengthOf "RangeReckoner" ∈ xN := List.mem_of_getElem? (i := 43) (by decide +kernel)
theorem nl_K_31 : Cond.methodLinkNest "RangeReckoner$Tokens" 31 y_A_signAt "RangeReckoner" ∈ xN := List.mem_of_getElem? (i := 27) (by decide +kernel)
theorem nl_K_37 : Cond.methodLinkNest "RangeReckoner$Tokens" 37 y_R_isDigit "RangeReckoner" ∈ xN := List.mem_of_getElem? (i := 29) (by decide +kernel)
theorem nl_K_62 : Cond.methodLinkNest "RangeReckoner$Tokens" 62 y_A_spells "RangeReckoner" ∈ xN := List.mem_of_getElem? (i := 30) (by decide +kernel)
theorem nl_P_66 : Cond.methodLinkNest "RangeReckoner$Parser" 66 y_K_advance "RangeReckoner" ∈ xN := List.mem_of_getElem? (i := 26) (by decide +kernel)
theorem nl_P_82 : Cond.methodLinkNest "RangeReckoner$Parser" 82 y_T_clear "RangeReckoner" ∈ xN := List.mem_of_getElem? (i := 23) (by decide +kernel)
theorem nl_P_87 : Cond.methodLinkNest "RangeReckoner$Parser" 87 y_K_restart "RangeReckoner" ∈ xN := List.mem_of_getElem? (i := 24) (by decide +kernel)
theorem nl_P_89 : Cond.methodLinkNest "RangeReckoner$Parser" 89 y_G_clear "RangeReckoner" ∈ xN := List.mem_of_getElem? (i := 25) (by decide +kernel)
theorem nl_P_96 : Cond.methodLinkNest "RangeReckoner$Parser" 96 y_N_put "RangeReckoner" ∈ xN := List.mem_of_getElem? (i := 31) (by decide +kernel)
theorem nl_P_117 : Cond.methodLinkNest "RangeReckoner$Parser" 117 y_V_has "RangeReckoner" ∈ xN := List.mem_of_getElem? (i := 35) (by decide +kernel)
theorem nl_P_123 : Cond.methodLinkNest "RangeReckoner$Parser" 123 y_V_lowOf "RangeReckoner" ∈ xN := List.mem_of_getElem? (i := 36) (by decide +kernel)
theorem nl_P_127 : Cond.methodLinkNest "RangeReckoner$Parser" 127 y_V_highOf "RangeReckoner" ∈ xN := List.mem_of_getElem? (i := 38) (by decide +kernel)
theorem nl_P_133 : Cond.methodLinkNest "RangeReckoner$Parser" 133 y_G_push "RangeReckoner" ∈ xN := List.mem_of_getElem? (i := 39) (by decide +kernel)
theorem nl_P_136 : Cond.methodLinkNest "RangeReckoner$Parser" 136 y_T_isFull "RangeReckoner" ∈ xN := List.mem_of_getElem? (i := 32) (by decide +kernel)
theorem nl_P_139 : Cond.methodLinkNest "RangeReckoner$Parser" 139 y_T_add "RangeReckoner" ∈ xN := List.mem_of_getElem? (i := 33) (by decide +kernel)
theorem nl_P_149 : Cond.methodLinkNest "RangeReckoner$Parser" 149 y_T_tellRange "RangeReckoner" ∈ xN := List.mem_of_getElem? (i := 34) (by decide +kernel)
theorem nl_P_155 : Cond.methodLinkNest "RangeReckoner$Parser" 155 y_R_at "RangeReckoner" ∈ xN := List.mem_of_getElem? (i := 47) (by decide +kernel)
theorem nl_P_159 : Cond.methodLinkNest "RangeReckoner$Parser" 159 y_R_strengthOf "RangeReckoner" ∈ xN := List.mem_of_getElem? (i := 40) (by decide +kernel)
theorem nl_P_169 : Cond.methodLinkNest "RangeReckoner$Parser" 169 y_G_topStrength "RangeReckoner" ∈ xN := List.mem_of_getElem? (i := 41) (by decide +kernel)
theorem nl_P_173 : Cond.methodLinkNest "RangeReckoner$Parser" 173 y_G_topCode "RangeReckoner" ∈ xN := List.mem_of_getElem? (i := 44) (by decide +kernel)
theorem nl_P_176 : Cond.methodLinkNest "RangeReckoner$Parser" 176 y_G_topAwaited "RangeReckoner" ∈ xN := List.mem_of_getElem? (i := 58) (by decide +kernel)
theorem nl_P_179 : Cond.methodLinkNest "RangeReckoner$Parser" 179 y_R_isFunction "RangeReckoner" ∈ xN := List.mem_of_getElem? (i := 59) (by decide +kernel)
theorem nl_P_193 : Cond.methodLinkNest "RangeReckoner$Parser" 193 y_G_cameNextTerm "RangeReckoner" ∈ xN := List.mem_of_getElem? (i := 60) (by decide +kernel)
theorem nl_P_196 : Cond.methodLinkNest "RangeReckoner$Parser" 196 y_G_pop "RangeReckoner" ∈ xN := List.mem_of_getElem? (i := 46) (by decide +kernel)
theorem nl_P_200 : Cond.methodLinkNest "RangeReckoner$Parser" 200 y_G_topPlace "RangeReckoner" ∈ xN := List.mem_of_getElem? (i := 45) (by decide +kernel)
theorem nl_P_206 : Cond.methodLinkNest "RangeReckoner$Parser" 206 y_R_takesOne "RangeReckoner" ∈ xN := List.mem_of_getElem? (i := 48) (by decide +kernel)
theorem nl_P_209 : Cond.methodLinkNest "RangeReckoner$Parser" 209 y_T_lowOf "RangeReckoner" ∈ xN := List.mem_of_getElem? (i := 49) (by decide +kernel)
theorem nl_P_210 : Cond.methodLinkNest "RangeReckoner$Parser" 210 y_T_highOf "RangeReckoner" ∈ xN := List.mem_of_getElem? (i := 51) (by decide +kernel)
theorem nl_P_215 : Cond.methodLinkNest "RangeReckoner$Parser" 215 y_R_divides "RangeReckoner" ∈ xN := List.mem_of_getElem? (i := 53) (by decide +kernel)
theorem nl_P_218 : Cond.methodLinkNest "RangeReckoner$Parser" 218 y_N_hasZero "RangeReckoner" ∈ xN := List.mem_of_getElem? (i := 54) (by decide +kernel)
theorem nl_P_221 : Cond.methodLinkNest "RangeReckoner$Parser" 221 y_N_reckon "RangeReckoner" ∈ xN := List.mem_of_getElem? (i := 55) (by decide +kernel)
theorem nl_P_225 : Cond.methodLinkNest "RangeReckoner$Parser" 225 y_N_isBeyond "RangeReckoner" ∈ xN := List.mem_of_getElem? (i := 56) (by decide +kernel)
theorem nl_P_232 : Cond.methodLinkNest "RangeReckoner$Parser" 232 y_T_tellTaken "RangeReckoner" ∈ xN := List.mem_of_getElem? (i := 57) (by decide +kernel)
theorem nl_P_235 : Cond.methodLinkNest "RangeReckoner$Parser" 235 y_T_kindOf "RangeReckoner" ∈ xN := List.mem_of_getElem? (i := 52) (by decide +kernel)
theorem nl_R_42 : Cond.methodLinkNest "RangeReckoner" 42 y_V_add "RangeReckoner" ∈ xN := List.mem_of_getElem? (i := 19) (by decide +kernel)
theorem nl_R_46 : Cond.methodLinkNest "RangeReckoner" 46 y_V_set "RangeReckoner" ∈ xN := List.mem_of_getElem? (i := 20) (by decide +kernel)
theorem nl_R_50 : Cond.methodLinkNest "RangeReckoner" 50 y_A_append "RangeReckoner" ∈ xN := List.mem_of_getElem? (i := 21) (by decide +kernel)
theorem nl_R_57 : Cond.methodLinkNest "RangeReckoner" 57 y_P_read "RangeReckoner" ∈ xN := List.mem_of_getElem? (i := 22) (by decide +kernel)
theorem nl_R_61 : Cond.methodLinkNest "RangeReckoner" 61 y_A_clear "RangeReckoner" ∈ xN := List.mem_of_getElem? (i := 61) (by decide +kernel)
theorem nl_R_64 : Cond.methodLinkNest "RangeReckoner" 64 y_T_has "RangeReckoner" ∈ xN := List.mem_of_getElem? (i := 62) (by decide +kernel)
theorem nl_R_68 : Cond.methodLinkNest "RangeReckoner" 68 y_T_placeOf "RangeReckoner" ∈ xN := List.mem_of_getElem? (i := 63) (by decide +kernel)
theorem nl_R_72 : Cond.methodLinkNest "RangeReckoner" 72 y_T_kindOf "RangeReckoner" ∈ xN := List.mem_of_getElem? (i := 64) (by decide +kernel)
theorem nl_R_75 : Cond.methodLinkNest "RangeReckoner" 75 y_T_lowOf "RangeReckoner" ∈ xN := List.mem_of_getElem? (i := 65) (by decide +kernel)
theorem nl_R_78 : Cond.methodLinkNest "RangeReckoner" 78 y_T_highOf "RangeReckoner" ∈ xN := List.mem_of_getElem? (i := 66) (by decide +kernel)
theorem nl_R_98 : Cond.methodLinkNest "RangeReckoner" 98 y_T_depthOf "RangeReckoner" ∈ xN := List.mem_of_getElem? (i := 67) (by decide +kernel)
theorem nl_T_47 : Cond.methodLinkNest "RangeReckoner$Term" 47 y_R_at "RangeReckoner" ∈ xN := List.mem_of_getElem? (i := 50) (by decide +kernel)
theorem nl_T_80 : Cond.methodLinkNest "RangeReckoner$Term" 80 y_V_worthOf "RangeReckoner" ∈ xN := List.mem_of_getElem? (i := 69) (by decide +kernel)
theorem nl_V_40 : Cond.methodLinkNest "RangeReckoner$Variables" 40 y_R_at "RangeReckoner" ∈ xN := List.mem_of_getElem? (i := 37) (by decide +kernel)
theorem ol_A_36 : ∀ w ∈ zwV "RangeReckoner$Tape" 36 y_A_appendWord prog_5_method_6_code 6 (some .int), w ∈ zT := List.forall_mem_cons.mpr ⟨zt_m2 22 rfl rfl, wn_A_appendWord⟩
theorem ol_G_28 : ∀ w ∈ zwS "RangeReckoner$Pending" 28 y_G_nests prog_3_method_10_code 1 (some .boolean), w ∈ zT := List.forall_mem_cons.mpr ⟨zt_m2 203 rfl rfl, wn_G_nests⟩
theorem ol_G_32 : ∀ w ∈ zwV "RangeReckoner$Pending" 32 y_G_topCode prog_3_method_5_code 1 (some .int), w ∈ zT := List.forall_mem_cons.mpr ⟨zt_m2 228 rfl rfl, wn_G_topCode⟩
theorem ol_G_40 : ∀ w ∈ zwV "RangeReckoner$Pending" 40 y_G_topAwaited prog_3_method_7_code 1 (some .int), w ∈ zT := List.forall_mem_cons.mpr ⟨zt_m2 233 rfl rfl, wn_G_topAwaited⟩
theorem ol_K_28 : ∀ w ∈ zwV "RangeReckoner$Tokens" 28 y_K_skipSpaces prog_7_method_4_code 1 none, w ∈ zT := List.forall_mem_cons.mpr ⟨zt_m2 54 rfl rfl, wn_K_skipSpaces⟩
theorem ol_K_41 : ∀ w ∈ zwV "RangeReckoner$Tokens" 41 y_K_readDigits prog_7_method_5_code 5 none, w ∈ zT := List.forall_mem_cons.mpr ⟨zt_m2 68 rfl rfl, wn_K_readDigits⟩
theorem ol_K_44 : ∀ w ∈ zwV "RangeReckoner$Tokens" 44 y_K_readVariable prog_7_method_6_code 3 none, w ∈ zT := List.forall_mem_cons.mpr ⟨zt_m2 74 rfl rfl, wn_K_readVariable⟩
theorem ol_K_47 : ∀ w ∈ zwV "RangeReckoner$Tokens" 47 y_K_readWord prog_7_method_7_code 1 none, w ∈ zT := List.forall_mem_cons.mpr ⟨zt_m2 78 rfl rfl, wn_K_readWord⟩
theorem ol_K_50 : ∀ w ∈ zwV "RangeReckoner$Tokens" 50 y_K_readMark prog_7_method_8_code 2 none, w ∈ zT := List.forall_mem_cons.mpr ⟨zt_m2 138 rfl rfl, wn_K_readMark⟩
theorem ol_K_70 : ∀ w ∈ zwS "RangeReckoner$Tokens" 70 y_K_doubleMark prog_7_method_9_code 2 (some .int), w ∈ zT := List.forall_mem_cons.mpr ⟨zt_m2 142 rfl rfl, wn_K_doubleMark⟩
theorem ol_K_74 : ∀ w ∈ zwS "RangeReckoner$Tokens" 74 y_K_singleMark prog_7_method_10_code 1 (some .int), w ∈ zT := List.forall_mem_cons.mpr ⟨zt_m2 145 rfl rfl, wn_K_singleMark⟩
theorem ol_M_79 : ∀ w ∈ zwS "RangeReckonerModel" 79 y_M_sign prog_10_method_5_code 3 (some .int), w ∈ zT := List.forall_mem_cons.mpr ⟨zt_m4 125 rfl rfl, wn_M_sign⟩
theorem ol_M_89 : ∀ w ∈ zwV "RangeReckonerModel" 89 y_M_at prog_10_method_7_code 2 (some .int), w ∈ zT := List.forall_mem_cons.mpr ⟨zt_m4 136 rfl rfl, wn_M_at⟩
theorem ol_M_106 : ∀ w ∈ zwV "RangeReckonerModel" 106 y_M_isDigit prog_10_method_8_code 2 (some .boolean), w ∈ zT := List.forall_mem_cons.mpr ⟨zt_m4 140 rfl rfl, wn_M_isDigit⟩
theorem ol_M_114 : ∀ w ∈ zwV "RangeReckonerModel" 114 y_M_stands prog_10_method_9_code 4 (some .boolean), w ∈ zT := List.forall_mem_cons.mpr ⟨zt_m4 146 rfl rfl, wn_M_stands⟩
theorem ol_M_124 : ∀ w ∈ zwV "RangeReckonerModel" 124 y_M_bad prog_10_method_12_code 3 none, w ∈ zT := List.forall_mem_cons.mpr ⟨zt_m4 158 rfl rfl, wn_M_bad⟩
theorem ol_M_134 : ∀ w ∈ zwV "RangeReckonerModel" 134 y_M_hold prog_10_method_14_code 3 none, w ∈ zT := List.forall_mem_cons.mpr ⟨zt_m4 170 rfl rfl, wn_M_hold⟩
theorem ol_M_140 : ∀ w ∈ zwS "RangeReckonerModel" 140 y_M_lesser prog_10_method_19_code 4 (some .long), w ∈ zT := List.forall_mem_cons.mpr ⟨zt_m4 197 rfl rfl, wn_M_lesser⟩
theorem ol_M_147 : ∀ w ∈ zwS "RangeReckonerModel" 147 y_M_greater prog_10_method_20_code 4 (some .long), w ∈ zT := List.forall_mem_cons.mpr ⟨zt_m4 200 rfl rfl, wn_M_greater⟩
theorem ol_M_153 : ∀ w ∈ zwV "RangeReckonerModel" 153 y_M_pop prog_10_method_18_code 1 (some .int), w ∈ zT := List.forall_mem_cons.mpr ⟨zt_m4 189 rfl rfl, wn_M_pop⟩
theorem ol_M_157 : ∀ w ∈ zwS "RangeReckonerModel" 157 y_M_rank prog_10_method_11_code 1 (some .int), w ∈ zT := List.forall_mem_cons.mpr ⟨zt_m4 182 rfl rfl, wn_M_rank⟩
theorem ol_M_160 : ∀ w ∈ zwV "RangeReckonerModel" 160 y_M_ends prog_10_method_22_code 9 none, w ∈ zT := List.forall_mem_cons.mpr ⟨zt_m4 193 rfl rfl, wn_M_ends⟩
theorem ol_M_164 : ∀ w ∈ zwS "RangeReckonerModel" 164 y_M_size prog_10_method_21_code 2 (some .long), w ∈ zT := List.forall_mem_cons.mpr ⟨zt_m4 203 rfl rfl, wn_M_size⟩
theorem ol_M_167 : ∀ w ∈ zwV "RangeReckonerModel" 167 y_M_part5 prog_10_method_13_code 8 (some .int), w ∈ zT := List.forall_mem_cons.mpr ⟨zt_m4 154 rfl rfl, wn_M_part5⟩
theorem ol_M_171 : ∀ w ∈ zwV "RangeReckonerModel" 171 y_M_push prog_10_method_17_code 2 none, w ∈ zT := List.forall_mem_cons.mpr ⟨zt_m4 162 rfl rfl, wn_M_push⟩
theorem ol_M_175 : ∀ w ∈ zwV "RangeReckonerModel" 175 y_M_topOp prog_10_method_16_code 1 (some .int), w ∈ zT := List.forall_mem_cons.mpr ⟨zt_m4 178 rfl rfl, wn_M_topOp⟩
theorem ol_M_178 : ∀ w ∈ zwV "RangeReckonerModel" 178 y_M_doTwo prog_10_method_23_code 20 none, w ∈ zT := List.forall_mem_cons.mpr ⟨zt_m4 185 rfl rfl, wn_M_doTwo⟩
theorem ol_M_181 : ∀ w ∈ zwV "RangeReckonerModel" 181 y_M_doOne prog_10_method_24_code 14 none, w ∈ zT := List.forall_mem_cons.mpr ⟨zt_m4 206 rfl rfl, wn_M_doOne⟩
theorem ol_M_184 : ∀ w ∈ zwV "RangeReckonerModel" 184 y_M_doAll prog_10_method_27_code 2 none, w ∈ zT := List.forall_mem_cons.mpr ⟨zt_m4 214 rfl rfl, wn_M_doAll⟩
theorem ol_M_187 : ∀ w ∈ zwV "RangeReckonerModel" 187 y_M_doChoice prog_10_method_25_code 6 none, w ∈ zT := List.forall_mem_cons.mpr ⟨zt_m4 222 rfl rfl, wn_M_doChoice⟩
theorem ol_M_190 : ∀ w ∈ zwV "RangeReckonerModel" 190 y_M_enter prog_10_method_15_code 2 none, w ∈ zT := List.forall_mem_cons.mpr ⟨zt_m4 166 rfl rfl, wn_M_enter⟩
theorem ol_M_193 : ∀ w ∈ zwV "RangeReckonerModel" 193 y_M_next prog_10_method_10_code 4 none, w ∈ zT := List.forall_mem_cons.mpr ⟨zt_m4 132 rfl rfl, wn_M_next⟩
theorem ol_M_196 : ∀ w ∈ zwV "RangeReckonerModel" 196 y_M_termEnds prog_10_method_28_code 3 none, w ∈ zT := List.forall_mem_cons.mpr ⟨zt_m4 218 rfl rfl, wn_M_termEnds⟩
theorem ol_M_199 : ∀ w ∈ zwV "RangeReckonerModel" 199 y_M_termFault prog_10_method_31_code 1 none, w ∈ zT := List.forall_mem_cons.mpr ⟨zt_m4 226 rfl rfl, wn_M_termFault⟩
theorem ol_M_202 : ∀ w ∈ zwV "RangeReckonerModel" 202 y_M_wasRead prog_10_method_26_code 4 none, w ∈ zT := List.forall_mem_cons.mpr ⟨zt_m4 174 rfl rfl, wn_M_wasRead⟩
theorem ol_M_205 : ∀ w ∈ zwV "RangeReckonerModel" 205 y_M_begins prog_10_method_29_code 1 (some .boolean), w ∈ zT := List.forall_mem_cons.mpr ⟨zt_m4 150 rfl rfl, wn_M_begins⟩
theorem ol_M_209 : ∀ w ∈ zwV "RangeReckonerModel" 209 y_M_goesOn prog_10_method_30_code 5 (some .boolean), w ∈ zT := List.forall_mem_cons.mpr ⟨zt_m4 210 rfl rfl, wn_M_goesOn⟩
theorem ol_M_215 : ∀ w ∈ zwS "RangeReckonerModel" 215 y_M_truth prog_10_method_34_code 1 (some .long), w ∈ zT := List.forall_mem_cons.mpr ⟨zt_m5 2 rfl rfl, wn_M_truth⟩
theorem ol_M_219 : ∀ w ∈ zwV "RangeReckonerModel" 219 y_M_worthOf prog_10_method_35_code 7 (some .long), w ∈ zT := List.forall_mem_cons.mpr ⟨zt_m4 238 rfl rfl, wn_M_worthOf⟩
theorem ol_N_22 : ∀ w ∈ zwV "RangeReckoner$Range" 22 y_N_put prog_4_method_2_code 5 none, w ∈ zT := List.forall_mem_cons.mpr ⟨zt_m3 47 rfl rfl, wn_N_put⟩
theorem ol_N_26 : ∀ w ∈ zwV "RangeReckoner$Range" 26 y_N_cover prog_4_method_6_code 9 none, w ∈ zT := List.forall_mem_cons.mpr ⟨zt_m3 48 rfl rfl, wn_N_cover⟩
theorem ol_N_30 : ∀ w ∈ zwV "RangeReckoner$Range" 30 y_N_reckonRest prog_4_method_7_code 5 none, w ∈ zT := List.forall_mem_cons.mpr ⟨zt_m3 58 rfl rfl, wn_N_reckonRest⟩
theorem ol_N_43 : ∀ w ∈ zwV "RangeReckoner$Range" 43 y_N_reckonSize prog_4_method_8_code 6 none, w ∈ zT := List.forall_mem_cons.mpr ⟨zt_m3 65 rfl rfl, wn_N_reckonSize⟩
theorem ol_N_51 : ∀ w ∈ zwV "RangeReckoner$Range" 51 y_N_hasZero prog_4_method_4_code 1 (some .boolean), w ∈ zT := List.forall_mem_cons.mpr ⟨zt_m3 69 rfl rfl, wn_N_hasZero⟩
theorem ol_P_62 : ∀ w ∈ zwV "RangeReckoner$Parser" 62 y_P_restart prog_2_method_3_code 2 none, w ∈ zT := List.forall_mem_cons.mpr ⟨zt_m2 34 rfl rfl, wn_P_restart⟩
theorem ol_P_69 : ∀ w ∈ zwV "RangeReckoner$Parser" 69 y_P_readOperand prog_2_method_5_code 1 none, w ∈ zT := List.forall_mem_cons.mpr ⟨zt_m2 148 rfl rfl, wn_P_readOperand⟩
theorem ol_P_72 : ∀ w ∈ zwV "RangeReckoner$Parser" 72 y_P_readBracket prog_2_method_7_code 1 none, w ∈ zT := List.forall_mem_cons.mpr ⟨zt_m2 206 rfl rfl, wn_P_readBracket⟩
theorem ol_P_75 : ∀ w ∈ zwV "RangeReckoner$Parser" 75 y_P_goesOn prog_2_method_11_code 3 (some .boolean), w ∈ zT := List.forall_mem_cons.mpr ⟨zt_m2 210 rfl rfl, wn_P_goesOn⟩
theorem ol_P_79 : ∀ w ∈ zwV "RangeReckoner$Parser" 79 y_P_endTerm prog_2_method_13_code 3 none, w ∈ zT := List.forall_mem_cons.mpr ⟨zt_m3 89 rfl rfl, wn_P_endTerm⟩
theorem ol_P_103 : ∀ w ∈ zwV "RangeReckoner$Parser" 103 y_P_addPart prog_2_method_9_code 5 none, w ∈ zT := List.forall_mem_cons.mpr ⟨zt_m2 156 rfl rfl, wn_P_addPart⟩
theorem ol_P_107 : ∀ w ∈ zwV "RangeReckoner$Parser" 107 y_P_readVariable prog_2_method_6_code 2 none, w ∈ zT := List.forall_mem_cons.mpr ⟨zt_m2 181 rfl rfl, wn_P_readVariable⟩
theorem ol_P_110 : ∀ w ∈ zwV "RangeReckoner$Parser" 110 y_P_nest prog_2_method_8_code 3 none, w ∈ zT := List.forall_mem_cons.mpr ⟨zt_m2 195 rfl rfl, wn_P_nest⟩
theorem ol_P_114 : ∀ w ∈ zwV "RangeReckoner$Parser" 114 y_P_blame prog_2_method_4_code 3 none, w ∈ zT := List.forall_mem_cons.mpr ⟨zt_m2 164 rfl rfl, wn_P_blame⟩
theorem ol_P_162 : ∀ w ∈ zwS "RangeReckoner$Parser" 162 y_P_leastSettledBy prog_2_method_12_code 2 (some .int), w ∈ zT := List.forall_mem_cons.mpr ⟨zt_m2 217 rfl rfl, wn_P_leastSettledBy⟩
theorem ol_P_165 : ∀ w ∈ zwV "RangeReckoner$Parser" 165 y_P_settle prog_2_method_16_code 3 none, w ∈ zT := List.forall_mem_cons.mpr ⟨zt_m2 220 rfl rfl, wn_P_settle⟩
theorem ol_P_182 : ∀ w ∈ zwV "RangeReckoner$Parser" 182 y_P_combine prog_2_method_17_code 6 none, w ∈ zT := List.forall_mem_cons.mpr ⟨zt_m2 238 rfl rfl, wn_P_combine⟩
theorem ol_P_185 : ∀ w ∈ zwV "RangeReckoner$Parser" 185 y_P_readBehindTerm prog_2_method_14_code 4 none, w ∈ zT := List.forall_mem_cons.mpr ⟨zt_m3 97 rfl rfl, wn_P_readBehindTerm⟩
theorem ol_P_189 : ∀ w ∈ zwS "RangeReckoner$Parser" 189 y_P_tokenDue prog_2_method_15_code 2 (some .int), w ∈ zT := List.forall_mem_cons.mpr ⟨zt_m3 101 rfl rfl, wn_P_tokenDue⟩
theorem ol_P_203 : ∀ w ∈ zwV "RangeReckoner$Parser" 203 y_P_popLoose prog_2_method_10_code 1 (some .int), w ∈ zT := List.forall_mem_cons.mpr ⟨zt_m3 11 rfl rfl, wn_P_popLoose⟩
theorem ol_P_211 : ∀ w ∈ zwV "RangeReckoner$Parser" 211 y_P_kindsFit prog_2_method_18_code 5 (some .boolean), w ∈ zT := List.forall_mem_cons.mpr ⟨zt_m3 28 rfl rfl, wn_P_kindsFit⟩
theorem ol_P_228 : ∀ w ∈ zwV "RangeReckoner$Parser" 228 y_P_kindGiven prog_2_method_19_code 5 (some .int), w ∈ zT := List.forall_mem_cons.mpr ⟨zt_m3 76 rfl rfl, wn_P_kindGiven⟩
theorem ol_T_51 : ∀ w ∈ zwV "RangeReckoner$Term" 51 y_T_has prog_6_method_3_code 2 (some .boolean), w ∈ zT := List.forall_mem_cons.mpr ⟨zt_m2 177 rfl rfl, wn_T_has⟩
theorem ol_T_55 : ∀ w ∈ zwV "RangeReckoner$Term" 55 y_T_isFull prog_6_method_4_code 1 (some .boolean), w ∈ zT := List.forall_mem_cons.mpr ⟨zt_m2 172 rfl rfl, wn_T_isFull⟩
theorem ol_T_59 : ∀ w ∈ zwV "RangeReckoner$Term" 59 y_T_depthOf prog_6_method_9_code 2 (some .int), w ∈ zT := List.forall_mem_cons.mpr ⟨zt_m3 84 rfl rfl, wn_T_depthOf⟩
theorem ol_T_69 : ∀ w ∈ zwV "RangeReckoner$Term" 69 y_T_work prog_6_method_15_code 8 (some .long), w ∈ zT := List.forall_mem_cons.mpr ⟨zt_m3 212 rfl rfl, wn_T_work⟩
theorem ol_T_73 : ∀ w ∈ zwV "RangeReckoner$Term" 73 y_T_workedOut prog_6_method_14_code 2 (some .long), w ∈ zT := List.forall_mem_cons.mpr ⟨zt_m3 216 rfl rfl, wn_T_workedOut⟩
theorem ol_T_77 : ∀ w ∈ zwV "RangeReckoner$Term" 77 y_T_lowOf prog_6_method_7_code 2 (some .int), w ∈ zT := List.forall_mem_cons.mpr ⟨zt_m3 220 rfl rfl, wn_T_lowOf⟩
theorem ol_T_85 : ∀ w ∈ zwV "RangeReckoner$Term" 85 y_T_kindOf prog_6_method_6_code 2 (some .int), w ∈ zT := List.forall_mem_cons.mpr ⟨zt_m3 225 rfl rfl, wn_T_kindOf⟩
theorem ol_T_88 : ∀ w ∈ zwS "RangeReckoner$Term" 88 y_T_numberOf prog_6_method_16_code 5 (some .long), w ∈ zT := List.forall_mem_cons.mpr ⟨zt_m3 226 rfl rfl, wn_T_numberOf⟩
theorem ol_T_92 : ∀ w ∈ zwS "RangeReckoner$Term" 92 y_T_isTrue prog_6_method_17_code 5 (some .boolean), w ∈ zT := List.forall_mem_cons.mpr ⟨zt_m3 232 rfl rfl, wn_T_isTrue⟩
theorem ol_V_36 : ∀ w ∈ zwV "RangeReckoner$Variables" 36 y_V_has prog_8_method_2_code 2 (some .boolean), w ∈ zT := List.forall_mem_cons.mpr ⟨zt_m2 10 rfl rfl, wn_V_has⟩
theorem jw_327 : (Cond.methodLink "RangeReckoner$Tape" (23 : Nat) ({ cls := "java/lang/String", name := "length", desc := "()I" } : MethodName)) ∈ zT := zt_m2 87 rfl rfl
theorem jw_328 : (Cond.instanceMethod ({ cls := "java/lang/String", name := "length", desc := "()I" } : MethodName)) ∈ zT := zt_m2 88 rfl rfl
theorem jw_329 : (Cond.selects "java/lang/String" ({ cls := "java/lang/String", name := "length", desc := "()I" } : MethodName) ({ cls := "java/lang/String", name := "length", desc := "()I" } : MethodName)) ∈ zT := zt_m2 89 rfl rfl
theorem jw_330 : (Cond.code ({ cls := "java/lang/String", name := "length", desc := "()I" } : MethodName) prog_15_method_54_code (1 : Nat) (Option.some ClassFile.FieldType.int)) ∈ zT := zt_m2 90 rfl rfl
theorem jw_331 : (Cond.methodLink "java/lang/String" (335 : Nat) ({ cls := "java/lang/String", name := "coder", desc := "()B" } : MethodName)) ∈ zT := zt_m2 91 rfl rfl
theorem jw_332 : (Cond.instanceMethod ({ cls := "java/lang/String", name := "coder", desc := "()B" } : MethodName)) ∈ zT := zt_m2 92 rfl rfl
theorem jw_333 : (Cond.selects "java/lang/String" ({ cls := "java/lang/String", name := "coder", desc := "()B" } : MethodName) ({ cls := "java/lang/String", name := "coder", desc := "()B" } : MethodName)) ∈ zT := zt_m2 93 rfl rfl
theorem jw_334 : (Cond.code ({ cls := "java/lang/String", name := "coder", desc := "()B" } : MethodName) prog_15_method_152_code (1 : Nat) (Option.some ClassFile.FieldType.byte)) ∈ zT := zt_m2 94 rfl rfl
theorem jw_335 : (Cond.fieldLink "java/lang/String" (38 : Nat) "java/lang/String" "COMPACT_STRINGS" "Z") ∈ zT := zt_m2 95 rfl rfl
theorem jw_337 : (Cond.methodLink "RangeReckoner$Tape" (28 : Nat) ({ cls := "RangeReckoner$Tape", name := "signAt", desc := "(I)I" } : MethodName)) ∈ zT := zt_m2 97 rfl rfl
theorem jw_338 : (Cond.methodLink "RangeReckoner$Tape" (32 : Nat) ({ cls := "java/lang/String", name := "charAt", desc := "(I)C" } : MethodName)) ∈ zT := zt_m2 98 rfl rfl
theorem jw_339 : (Cond.instanceMethod ({ cls := "java/lang/String", name := "charAt", desc := "(I)C" } : MethodName)) ∈ zT := zt_m2 99 rfl rfl
theorem jw_340 : (Cond.selects "java/lang/String" ({ cls := "java/lang/String", name := "charAt", desc := "(I)C" } : MethodName) ({ cls := "java/lang/String", name := "charAt", desc := "(I)C" } : MethodName)) ∈ zT := zt_m2 100 rfl rfl
theorem jw_341 : (Cond.code ({ cls := "java/lang/String", name := "charAt", desc := "(I)C" } : MethodName) prog_15_method_56_code (2 : Nat) (Option.some ClassFile.FieldType.char)) ∈ zT := zt_m2 101 rfl rfl
theorem jw_342 : (Cond.methodLink "java/lang/String" (492 : Nat) ({ cls := "java/lang/String", name := "isLatin1", desc := "()Z" } : MethodName)) ∈ zT := zt_m2 102 rfl rfl
theorem jw_343 : (Cond.instanceMethod ({ cls := "java/lang/String", name := "isLatin1", desc := "()Z" } : MethodName)) ∈ zT := zt_m2 103 rfl rfl
theorem jw_344 : (Cond.selects "java/lang/String" ({ cls := "java/lang/String", name := "isLatin1", desc := "()Z" } : MethodName) ({ cls := "java/lang/String", name := "isLatin1", desc := "()Z" } : MethodName)) ∈ zT := zt_m2 104 rfl rfl
theorem jw_345 : (Cond.code ({ cls := "java/lang/String", name := "isLatin1", desc := "()Z" } : MethodName) prog_15_method_154_code (1 : Nat) (Option.some ClassFile.FieldType.boolean)) ∈ zT := zt_m2 105 rfl rfl
theorem jw_346 : (Cond.methodLink "java/lang/String" (495 : Nat) ({ cls := "java/lang/StringLatin1", name := "charAt", desc := "([BI)C" } : MethodName)) ∈ zT := zt_m2 106 rfl rfl
theorem jw_347 : (Cond.static ({ cls := "java/lang/StringLatin1", name := "charAt", desc := "([BI)C" } : MethodName)) ∈ zT := zt_m2 107 rfl rfl
theorem jw_348 : (Cond.code ({ cls := "java/lang/StringLatin1", name := "charAt", desc := "([BI)C" } : MethodName) prog_16_method_2_code (2 : Nat) (Option.some ClassFile.FieldType.char)) ∈ zT := zt_m2 108 rfl rfl
theorem jw_349 : (Cond.methodLink "java/lang/StringLatin1" (9 : Nat) ({ cls := "java/lang/String", name := "checkIndex", desc := "(II)V" } : MethodName)) ∈ zT := zt_m2 109 rfl rfl
theorem jw_350 : (Cond.static ({ cls := "java/lang/String", name := "checkIndex", desc := "(II)V" } : MethodName)) ∈ zT := zt_m2 110 rfl rfl
theorem jw_351 : (Cond.code ({ cls := "java/lang/String", name := "checkIndex", desc := "(II)V" } : MethodName) prog_15_method_155_code (2 : Nat) (Option.none : Option ClassFile.FieldType)) ∈ zT := zt_m2 111 rfl rfl
theorem jw_352 : (Cond.fieldLink "java/lang/String" (1053 : Nat) "jdk/internal/util/Preconditions" "SIOOBE_FORMATTER" "Ljava/util/function/BiFunction;") ∈ zT := zt_m2 112 rfl rfl
theorem jw_354 : (Cond.methodLink "java/lang/String" (1059 : Nat) ({ cls := "jdk/internal/util/Preconditions", name := "checkIndex", desc := "(IILjava/util/function/BiFunction;)I" } : MethodName)) ∈ zT := zt_m2 114 rfl rfl
theorem jw_355 : (Cond.static ({ cls := "jdk/internal/util/Preconditions", name := "checkIndex", desc := "(IILjava/util/function/BiFunction;)I" } : MethodName)) ∈ zT := zt_m2 115 rfl rfl
theorem jw_356 : (Cond.code ({ cls := "jdk/internal/util/Preconditions", name := "checkIndex", desc := "(IILjava/util/function/BiFunction;)I" } : MethodName) prog_19_method_11_code (3 : Nat) (Option.some ClassFile.FieldType.int)) ∈ zT := zt_m2 116 rfl rfl
theorem jw_975 : (Cond.fieldLink "java/lang/String" (9 : Nat) "java/lang/String" "value" "[B") ∈ zT := zt_m5 15 rfl rfl
theorem jw_976 : (Cond.fieldLink "java/lang/String" (15 : Nat) "java/lang/String" "coder" "B") ∈ zT := zt_m5 16 rfl rfl
theorem jw_iS : Cond.initialized "java/lang/String" ∈ zT := zt_m1 11 rfl rfl
theorem jw_iL : Cond.initialized "java/lang/StringLatin1" ∈ zT := zt_m1 12 rfl rfl
theorem jw_iP : Cond.initialized "jdk/internal/util/Preconditions" ∈ zT := zt_m1 13 rfl rfl
theorem mk_ini : Cond.initialized "java/lang/Math" ∈ zT := zt_m1 10 rfl rfl
theorem mk_Lib_Math_max_s : Cond.static Lib.Math.max.name ∈ zT := zt_m2 0 rfl rfl
theorem mk_Lib_Math_max_c : Cond.code Lib.Math.max.name Lib.Math.max.code 2 (some .int) ∈ zT := zt_mem 241 (by decide +kernel) (by decide +kernel)
theorem mk_Lib_Math_min_s : Cond.static Lib.Math.min.name ∈ zT := zt_m1 237 rfl rfl
theorem mk_Lib_Math_min_c : Cond.code Lib.Math.min.name Lib.Math.min.code 2 (some .int) ∈ zT := zt_mem 238 (by decide +kernel) (by decide +kernel)
theorem mk_Lib_MathLoose_abs_long_s : Cond.static Lib.MathLoose.abs_long.x ∈ zT := zt_m3 63 rfl rfl
theorem mk_Lib_MathLoose_abs_long_c : Cond.code Lib.MathLoose.abs_long.x Lib.MathLoose.abs_long.code 2 (some .long) ∈ zT := zt_mem 544 (by decide +kernel) (by decide +kernel)
theorem mk_Lib_MathLoose_max_long_s : Cond.static Lib.MathLoose.max_long.x ∈ zT := zt_m3 56 rfl rfl
theorem mk_Lib_MathLoose_max_long_c : Cond.code Lib.MathLoose.max_long.x Lib.MathLoose.max_long.code 4 (some .long) ∈ zT := zt_mem 537 (by decide +kernel) (by decide +kernel)
theorem mk_Lib_MathLoose_min_long_s : Cond.static Lib.MathLoose.min_long.x ∈ zT := zt_m3 53 rfl rfl
theorem mk_Lib_MathLoose_min_long_c : Cond.code Lib.MathLoose.min_long.x Lib.MathLoose.min_long.code 4 (some .long) ∈ zT := zt_mem 534 (by decide +kernel) (by decide +kernel)
