def fAt (f : Nat → Int32) (n : Nat) (i : Int32) : Int32 := if 0 ≤ i then (if i < nI n then f i.toNatClampNeg else 0) else 0
def fSign (h : zH) (i : Int32) : Int32 := if 0 ≤ i then (if i < h.1 5 1 then fAt (h.1 6) 400 i else -1) else -1
def fSpells (h : zH) (l1 : Int32) : List Int32 → Int32 → Int32
  | [], _ => 1
  | b :: t, j => if fSign h (l1 + j) = b then fSpells h l1 t (j + 1) else 0
def wp_A_spells (l1 : Int32) (i : Nat) (h : zH) (post : Int32 → zH → Prop) : Prop := i < 3 ∧ post (fSpells h l1 (xSbyt.getD i []) 0) h
theorem t_A_spells {l : Launch} {E : zE} {G : (Nat → Prop) → State → Prop} (hG : xGG E G) {l1 : Int32} {i : Nat} {h : zH} {post : Int32 → zH → Prop} (hw : wp_A_spells l1 i h post) : Ct l xX E xcl xN zT G 2 70 y_A_spells prog_5_method_4_code 4 (some .boolean) [.ref (E.2.2.1 5), .int l1, .ref (E.2.2.2.1 i)] h (zPi post) := by
  sorry
