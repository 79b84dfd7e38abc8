theorem sng_rop {a : Nat} (h : a ≤ 126) : (sng a = 0 ∨ rop (sng a) = a) ∧ sng a < 28 := by
  have : ∀ a, a < 127 → (sng a = 0 ∨ rop (sng a) = a) ∧ sng a < 28 := by decide
  exact this a (by omega)
theorem sp_nx527s {h : zH} {a : Nat} {post : zH → Prop} (ha : a ≤ 126) (hq : post (zi (zi h 39 8 7) 39 8 (nI (rop (sng a))))) : b_M_next_527 post (nI a) 7 h := by
  have L : ∀ d : Nat, d < 2147483648 → (nI a = (no_index (OfNat.ofNat d : Int32)) ↔ a = d) := fun d hd => nI_lit (by omega) hd
  have y : sng a ≠ 0 → ∀ h16, h16 = zi h 39 8 7 → b_M_next_628 post (nI a) h16 := by
    intro hs h16 g16
    unfold b_M_next_628 b_M_next_633 b_M_next_645 b_M_next_648
    refine ⟨fun q => absurd q (by decide), fun _ h15 g15 => ?_⟩
    rcases (sng_rop ha).1 with z | z
    · exact absurd z hs
    · rw [z] at hq; rw [g15, g16]; exact hq
  have n : sng a = 0 → ∀ h16, h16 = zi h 39 8 7 → b_M_next_633 post (nI a) 0 h16 := by
    intro hs h16 g16
    unfold b_M_next_633 b_M_next_645 b_M_next_648
    refine ⟨fun _ h15 g15 => ?_, fun q => absurd rfl q⟩
    rw [hs] at hq; rw [g15, g16]; exact hq
  unfold b_M_next_527
  intro h16 g16
  have e8 : h16.1 39 8 = 7 := by rw [g16]; simp [zi1]
  rw [e8]
  refine ⟨fun _ => ?_, fun q => absurd rfl q⟩
  rw [L 40 (by decide), L 41 (by decide), L 44 (by decide), L 63 (by decide), L 58 (by decide), L 43 (by decide), L 45 (by decide), L 42 (by decide), L 47 (by decide), L 37 (by decide), L 60 (by decide), L 62 (by decide), L 33 (by decide)]
  refine ⟨fun c => y (by rw [c]; decide) h16 g16, fun c1 => ⟨fun c => y (by rw [c]; decide) h16 g16, fun c2 => ⟨fun c => y (by rw [c]; decide) h16 g16, fun c3 => ⟨fun c => y (by rw [c]; decide) h16 g16, fun c4 => ⟨fun c => y (by rw [c]; decide) h16 g16, fun c5 => ⟨fun c => y (by rw [c]; decide) h16 g16, fun c6 => ⟨fun c => y (by rw [c]; decide) h16 g16, fun c7 => ⟨fun c => y (by rw [c]; decide) h16 g16, fun c8 => ⟨fun c => y (by rw [c]; decide) h16 g16, fun c9 => ⟨fun c => y (by rw [c]; decide) h16 g16, fun c10 => ⟨fun c => y (by rw [c]; decide) h16 g16, fun c11 => ⟨fun c => y (by rw [c]; decide) h16 g16, fun c12 => ⟨fun c13 => n ?_ h16 g16, fun c => y (by rw [c]; decide) h16 g16⟩⟩⟩⟩⟩⟩⟩⟩⟩⟩⟩⟩⟩
  unfold sng
  rw [if_neg c1, if_neg c2, if_neg c3, if_neg c4, if_neg c5, if_neg c6, if_neg c7, if_neg c8, if_neg c9, if_neg c10, if_neg c11, if_neg c12, if_neg c13]
theorem sp_nx527d {h : zH} {a d i : Nat} {post : zH → Prop} (hd : d < 28) (h0 : d ≠ 0) (e9 : h.1 39 9 = nI i) (hq : post (zi (zi h 39 8 (nI (rop d))) 39 10 (nI (i + 2)))) : b_M_next_527 post (nI a) (nI (rop d)) h := by
  unfold b_M_next_527
  intro h16 g16
  have e8 : h16.1 39 8 = nI (rop d) := by rw [g16]; simp [zi1]
  have e9' : h16.1 39 9 = nI i := by rw [g16]; simp [zi1]; exact e9
  rw [e8]
  have e7 : nI (rop d) = 7 ↔ d = 0 := ropI 0 hd
  rw [e7]
  refine ⟨fun q => absurd q h0, fun _ h17 g17 => ?_⟩
  rw [e9', show nI i + 2 = nI (i + 2) from nI_add i 2] at g17
  rw [g17, g16]; exact hq
theorem dbl0 {a b : Nat} (h1 : ¬ (a = 60 ∧ b = 61)) (h2 : ¬ (a = 62 ∧ b = 61)) (h3 : ¬ (a = 61 ∧ b = 61)) (h4 : ¬ (a = 33 ∧ b = 61)) (h5 : ¬ (a = 38 ∧ b = 38)) (h6 : ¬ (a = 124 ∧ b = 124)) : dbl a b = 0 := by
  unfold dbl
  rw [if_neg h5, if_neg h6]
  by_cases c : b = 61
  · rw [if_pos c, if_neg (by omega), if_neg (by omega), if_neg (by omega), if_neg (by omega)]
  · rw [if_neg c]
theorem sp_nxd {h : zH} {a b : Nat} {post : zH → Prop} (ha : a ≤ 126) (hb : b ≤ 126) (H : b_M_next_527 post (nI a) (nI (rop (dbl a b))) h) :
    ((¬ nI a = 60 → b_M_next_435 post (nI a) (nI b) h) ∧ (nI a = 60 → ((¬ nI b = 61 → b_M_next_435 post (nI a) (nI b) h) ∧ (nI b = 61 → b_M_next_527 post (nI a) 200 h)))) := by
  have L : ∀ d : Nat, d < 2147483648 → (nI a = (no_index (OfNat.ofNat d : Int32)) ↔ a = d) := fun d hd => nI_lit (by omega) hd
  have M : ∀ d : Nat, d < 2147483648 → (nI b = (no_index (OfNat.ofNat d : Int32)) ↔ b = d) := fun d hd => nI_lit (by omega) hd
  have g525 : dbl a b = 0 → b_M_next_525 post (nI a) h := by
    intro z; rw [z] at H; exact H
  have g507 : ¬ (a = 60 ∧ b = 61) → ¬ (a = 62 ∧ b = 61) → ¬ (a = 61 ∧ b = 61) → ¬ (a = 33 ∧ b = 61) → ¬ (a = 38 ∧ b = 38) → b_M_next_507 post (nI a) (nI b) h := by
    intro h1 h2 h3 h4 h5
    unfold b_M_next_507
    rw [L 124 (by decide), M 124 (by decide)]
    refine ⟨fun c => g525 (dbl0 h1 h2 h3 h4 h5 (by omega)), fun c => ⟨fun d => g525 (dbl0 h1 h2 h3 h4 h5 (by omega)), fun d => ?_⟩⟩
    rw [c, d] at H; rw [c]; exact H
  have g489 : ¬ (a = 60 ∧ b = 61) → ¬ (a = 62 ∧ b = 61) → ¬ (a = 61 ∧ b = 61) → ¬ (a = 33 ∧ b = 61) → b_M_next_489 post (nI a) (nI b) h := by
    intro h1 h2 h3 h4
    unfold b_M_next_489
    rw [L 38 (by decide), M 38 (by decide)]
    refine ⟨fun c => g507 h1 h2 h3 h4 (by omega), fun c => ⟨fun d => g507 h1 h2 h3 h4 (by omega), fun d => ?_⟩⟩
    rw [c, d] at H; rw [c]; exact H
  have g471 : ¬ (a = 60 ∧ b = 61) → ¬ (a = 62 ∧ b = 61) → ¬ (a = 61 ∧ b = 61) → b_M_next_471 post (nI a) (nI b) h := by
    intro h1 h2 h3
    unfold b_M_next_471
    rw [L 33 (by decide), M 61 (by decide)]
    refine ⟨fun c => g489 h1 h2 h3 (by omega), fun c => ⟨fun d => g489 h1 h2 h3 (by omega), fun d => ?_⟩⟩
    rw [c, d] at H; rw [c]; exact H
  have g453 : ¬ (a = 60 ∧ b = 61) → ¬ (a = 62 ∧ b = 61) → b_M_next_453 post (nI a) (nI b) h := by
    intro h1 h2
    unfold b_M_next_453
    rw [L 61 (by decide), M 61 (by decide)]
    refine ⟨fun c => g471 h1 h2 (by omega), fun c => ⟨fun d => g471 h1 h2 (by omega), fun d => ?_⟩⟩
    rw [c, d] at H; rw [c]; exact H
  have g435 : ¬ (a = 60 ∧ b = 61) → b_M_next_435 post (nI a) (nI b) h := by
    intro h1
    unfold b_M_next_435
    rw [L 62 (by decide), M 61 (by decide)]
    refine ⟨fun c => g453 h1 (by omega), fun c => ⟨fun d => g453 h1 (by omega), fun d => ?_⟩⟩
    rw [c, d] at H; rw [c]; exact H
  rw [L 60 (by decide), M 61 (by decide)]
  refine ⟨fun c => g435 (by omega), fun c => ⟨fun d => g435 (by omega), fun d => ?_⟩⟩
  rw [c, d] at H; rw [c]; exact H
/-- what is neither number nor variable -/
def tkR (a b c : Nat) : Nat := if a = 109 ∨ a = 97 then wrd a b c else if dbl a b ≠ 0 then dbl a b else sng a
def tkN (i a b : Nat) : Nat := if a = 109 ∨ a = 97 then i + 3 else if dbl a b ≠ 0 then i + 2 else i + 1
theorem sp_nx338 {h : zH} {sg : Nat → Nat} {n nv i : Nat} {post : zH → Prop} (a : RSm h sg n nv) (hi : i ≤ 1000) (e9 : h.1 39 9 = nI i) (e10 : h.1 39 10 = nI (i + 1))
    (hq : ∀ h', FK keepT h h' → h'.1 39 8 = nI (rop (tkR (sgn sg n i) (sgn sg n (i + 1)) (sgn sg n (i + 2)))) → h'.1 39 9 = nI i → (tkR (sgn sg n i) (sgn sg n (i + 1)) (sgn sg n (i + 2)) ≠ 0 → h'.1 39 10 = nI (tkN i (sgn sg n i) (sgn sg n (i + 1)))) → post h') : b_M_next_338 post (nI (sgn sg n i)) (nI (sgn sg n (i + 1))) h := by
  have ha := sgnm (i := i) a
  have hb := sgnm (i := i + 1) a
  have hc := sgnm (i := i + 2) a
  have SA := fun (x y z : Nat) (hx : x < 200) (hy : y < 200) (hz : z < 200) (post : Int32 → zH → Prop) (hp : post (b01 (decide (sgn sg n i = x ∧ sgn sg n (i + 1) = y ∧ sgn sg n (i + 2) = z))) h) => sp_M_stands (post := post) a e9 (by omega) hx hy hz hp
  generalize sgn sg n i = A at *
  generalize sgn sg n (i + 1) = B at *
  generalize sgn sg n (i + 2) = C at *
  have b400 : ∀ d, (A = 109 ∨ A = 97) → wrd A B C = d → d ≠ 0 → b_M_next_400 post (nI (rop d)) h := by
    intro d hA hw h0
    unfold b_M_next_400 b_M_next_648
    intro h13 g13 h14 g14
    have e9' : h13.1 39 9 = nI i := by rw [g13]; simp [zi1]; exact e9
    rw [e9', show nI i + 3 = nI (i + 3) from nI_add i 3] at g14
    have et : tkR A B C = d := by unfold tkR; rw [if_pos hA]; exact hw
    have en : tkN i A B = i + 3 := by unfold tkN; rw [if_pos hA]
    rw [et, en] at hq
    rw [g14, g13]
    exact hq _ ((FK.rf.zi nkT).zi nkT) (by simp [zi1]) (by simp [zi1]; exact e9) (fun _ => by simp [zi1])
  have b377 : wrd A B C ≠ 0 → b_M_next_377 post (nI A) (nI B) h := by
    intro hw
    unfold b_M_next_377
    rw [nI_lit (d := 97) (by omega) (by decide), nI_lit (d := 105) (by omega) (by decide)]
    have hw2 : (A = 109 ∧ B = 105 ∧ C = 110) ∨ (A = 109 ∧ B = 97 ∧ C = 120) ∨ (A = 97 ∧ B = 98 ∧ C = 115) := by
      by_cases c1 : A = 109 ∧ B = 105 ∧ C = 110
      · exact Or.inl c1
      by_cases c2 : A = 109 ∧ B = 97 ∧ C = 120
      · exact Or.inr (Or.inl c2)
      by_cases c3 : A = 97 ∧ B = 98 ∧ C = 115
      · exact Or.inr (Or.inr c3)
      unfold wrd at hw
      rw [if_neg c1, if_neg c2, if_neg c3] at hw
      omega
    refine ⟨fun c => ⟨fun d => b400 24 (by omega) ?_ (by decide), fun d => b400 23 (by omega) ?_ (by decide)⟩, fun c => b400 25 (by omega) ?_ (by decide)⟩
    · have : A = 109 ∧ B = 97 ∧ C = 120 := by omega
      rw [this.1, this.2.1, this.2.2]; rfl
    · have : A = 109 ∧ B = 105 ∧ C = 110 := by omega
      rw [this.1, this.2.1, this.2.2]; rfl
    · have : A = 97 ∧ B = 98 ∧ C = 115 := by omega
      rw [this.1, this.2.1, this.2.2]; rfl
  unfold b_M_next_338
  refine SA 109 105 110 (by decide) (by decide) (by decide) _ ⟨fun q => b377 ?_, fun q1 => SA 109 97 120 (by decide) (by decide) (by decide) _ ⟨fun q => b377 ?_, fun q2 => SA 97 98 115 (by decide) (by decide) (by decide) _ ⟨fun q3 => ?_, fun q => b377 ?_⟩⟩⟩
  · rw [b01f] at q
    have q' : A = 109 ∧ B = 105 ∧ C = 110 := by simpa using q
    rw [q'.1, q'.2.1, q'.2.2]; decide
  · rw [b01f] at q
    have q' : A = 109 ∧ B = 97 ∧ C = 120 := by simpa using q
    rw [q'.1, q'.2.1, q'.2.2]; decide
  · rw [b01f] at q1 q2 q3
    have r1 : ¬ (A = 109 ∧ B = 105 ∧ C = 110) := by simpa using q1
    have r2 : ¬ (A = 109 ∧ B = 97 ∧ C = 120) := by simpa using q2
    have r3 : ¬ (A = 97 ∧ B = 98 ∧ C = 115) := by simpa using q3
    have w0 : wrd A B C = 0 := by unfold wrd; rw [if_neg r1, if_neg r2, if_neg r3]
    refine sp_nxd ha hb ?_
    by_cases d0 : dbl A B = 0
    · rw [d0]
      refine sp_nx527s ha ?_
      have et : tkR A B C = sng A := by
        unfold tkR
        by_cases c : A = 109 ∨ A = 97
        · rw [if_pos c, w0]; rcases c with e | e <;> rw [e] <;> rfl
        · rw [if_neg c, if_neg (by omega)]
      rw [et] at hq
      refine hq _ ((FK.rf.zi nkT).zi nkT) (by simp [zi1]) (by simp [zi1]; exact e9) (fun z => ?_)
      have en : tkN i A B = i + 1 := by
        unfold tkN
        by_cases c : A = 109 ∨ A = 97
        · exfalso; apply z; rcases c with e | e <;> rw [e] <;> rfl
        · rw [if_neg c, if_neg (by omega)]
      rw [en]; simp [zi1]; exact e10
    · refine sp_nx527d (by have := dbl_lt A B; omega) d0 e9 ?_
      have nc : ¬ (A = 109 ∨ A = 97) := by
        intro c
        apply d0
        apply dbl0 <;> omega
      have et : tkR A B C = dbl A B := by unfold tkR; rw [if_neg nc, if_pos d0]
      have en : tkN i A B = i + 2 := by unfold tkN; rw [if_neg nc, if_pos d0]
      rw [et, en] at hq
      exact hq _ ((FK.rf.zi nkT).zi nkT) (by simp [zi1]) (by simp [zi1]; exact e9) (fun _ => by simp [zi1])
  · rw [b01f] at q
    have q' : A = 97 ∧ B = 98 ∧ C = 115 := by simpa using q
    rw [q'.1, q'.2.1, q'.2.2]; decide
