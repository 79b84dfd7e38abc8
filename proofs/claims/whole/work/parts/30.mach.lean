/-! THE MACHINE that both read by, over lists (the newest first; a thing's number is how many stand behind it) -/
abbrev Pt : Type := Nat × Nat × Nat × Int × Int × Nat × Nat × Nat × Nat
def pOp (p : Pt) : Nat := p.1
def pPl (p : Pt) : Nat := p.2.1
def pKd (p : Pt) : Nat := p.2.2.1
def pLo (p : Pt) : Int := p.2.2.2.1
def pHi (p : Pt) : Int := p.2.2.2.2.1
def pA (p : Pt) : Nat := p.2.2.2.2.2.1
def pB (p : Pt) : Nat := p.2.2.2.2.2.2.1
def pC (p : Pt) : Nat := p.2.2.2.2.2.2.2.1
def pDp (p : Pt) : Nat := p.2.2.2.2.2.2.2.2
abbrev Fr : Type := Nat × Nat × Nat
def pget : List Pt → Nat → Pt
  | [], _ => (0, 0, 0, 0, 0, 0, 0, 0, 0)
  | x :: l, i => if i = l.length then x else pget l i
/-- how strongly an operator that waits holds its last part -/
def stg (op : Nat) : Int := if op = 27 then 0 else if op = 22 then 1 else if op = 21 then 2 else if 14 ≤ op ∧ op ≤ 19 then 3 else if op = 9 ∨ op = 10 then 4 else if 11 ≤ op ∧ op ≤ 13 then 5 else if op = 20 ∨ op = 26 then 6 else -1
def nsts (op : Nat) : Bool := op == 4 || op == 7 || op == 20 || op == 23 || op == 24 || op == 25 || op == 26 || op == 27
def nst : List Fr → Nat
  | [] => 0
  | f :: l => (if nsts f.1 then 1 else 0) + nst l
def mn4 (a b c d : Int) : Int := min (min a b) (min c d)
def mx4 (a b c d : Int) : Int := max (max a b) (max c d)
def ab (a : Int) : Int := if a < 0 then -a else a
/-- the range of what an operator with two parts gives -/
def rg2 (op : Nat) (a b c d : Int) : Int × Int :=
  if op = 9 then (a + c, b + d)
  else if op = 10 then (a - d, b - c)
  else if op = 11 then (mn4 (a * c) (a * d) (b * c) (b * d), mx4 (a * c) (a * d) (b * c) (b * d))
  else if op = 12 then (mn4 (a.tdiv c) (a.tdiv d) (b.tdiv c) (b.tdiv d), mx4 (a.tdiv c) (a.tdiv d) (b.tdiv c) (b.tdiv d))
  else if op = 13 then (if a < 0 then -(min (max (ab c) (ab d) - 1) (-a)) else 0, if 0 < b then min (max (ab c) (ab d) - 1) b else 0)
  else if op = 23 then (min a c, min b d)
  else if op = 24 then (max a c, max b d)
  else (0, 1)
def rg1 (op : Nat) (a b : Int) : Int × Int :=
  if op = 26 then (-b, -a)
  else if op = 25 then (if a ≤ 0 ∧ 0 ≤ b then 0 else min (ab a) (ab b), max (ab a) (ab b))
  else (0, 1)
def kd2 (op : Nat) : Nat := if (9 ≤ op ∧ op ≤ 13) ∨ op = 23 ∨ op = 24 then 0 else 1
def fit2 (op k1 k2 : Nat) : Prop := if op = 18 ∨ op = 19 then k1 = k2 else if op = 21 ∨ op = 22 then k1 = 1 ∧ k2 = 1 else k1 = 0 ∧ k2 = 0
def EG : Int := 2000000000
def addp (pile : List Nat) (ps : List Pt) (p : Pt) : Except Nat (List Nat × List Pt) := if ps.length < 100 then .ok (ps.length :: pile, p :: ps) else .error (6 + 8 * pPl p)
noncomputable def comb2 (op pl : Nat) (pile : List Nat) (ps : List Pt) : Except Nat (List Nat × List Pt) :=
  match pile with
  | r :: l :: t =>
    let x := pget ps l
    let y := pget ps r
    let q := rg2 op (pLo x) (pHi x) (pLo y) (pHi y)
    have := Classical.propDecidable (fit2 op (pKd x) (pKd y))
    if ¬ fit2 op (pKd x) (pKd y) then .error (2 + 8 * pl)
    else if (op = 12 ∨ op = 13) ∧ pLo y ≤ 0 ∧ 0 ≤ pHi y then .error (3 + 8 * pl)
    else if q.1 < -EG ∨ EG < q.2 then .error (4 + 8 * pl)
    else addp t ps (op, pl, kd2 op, q.1, q.2, l, r, 0, 1 + max (pDp x) (pDp y))
  | _ => .error 0
def comb1 (op pl : Nat) (pile : List Nat) (ps : List Pt) : Except Nat (List Nat × List Pt) :=
  match pile with
  | r :: t =>
    let x := pget ps r
    let q := rg1 op (pLo x) (pHi x)
    if pKd x ≠ (if op = 20 then 1 else 0) then .error (2 + 8 * pl)
    else addp t ps (op, pl, (if op = 20 then 1 else 0), q.1, q.2, r, 0, 0, 1 + pDp x)
  | _ => .error 0
def comb3 (pl : Nat) (pile : List Nat) (ps : List Pt) : Except Nat (List Nat × List Pt) :=
  match pile with
  | z :: y :: x :: t =>
    if pKd (pget ps x) ≠ 1 ∨ pKd (pget ps y) ≠ pKd (pget ps z) then .error (2 + 8 * pl)
    else addp t ps (7, pl, pKd (pget ps y), min (pLo (pget ps y)) (pLo (pget ps z)), max (pHi (pget ps y)) (pHi (pget ps z)), x, y, z, 1 + max (pDp (pget ps x)) (max (pDp (pget ps y)) (pDp (pget ps z))))
  | _ => .error 0
noncomputable def comb (op pl : Nat) (pile : List Nat) (ps : List Pt) : Except Nat (List Nat × List Pt) :=
  if op = 27 then comb3 pl pile ps
  else if op = 20 ∨ op = 25 ∨ op = 26 then comb1 op pl pile ps
  else comb2 op pl pile ps
abbrev St : Type := List Fr × List Nat × List Pt
/-- all that holds at least so strongly becomes a part -/
noncomputable def stl (r : Int) : List Fr → List Nat → List Pt → Except Nat St
  | [], pile, ps => .ok ([], pile, ps)
  | f :: ws, pile, ps => if r ≤ stg f.1 then (match comb f.1 f.2.1 pile ps with
    | .ok q => stl r ws q.1 q.2
    | .error e => .error e) else .ok (f :: ws, pile, ps)
theorem stl_stl_ok {r r' : Int} (hr : r ≤ r') : ∀ (ws : List Fr) (pile : List Nat) (ps : List Pt) (σ : St), stl r' ws pile ps = .ok σ → stl r ws pile ps = stl r σ.1 σ.2.1 σ.2.2
  | [], pile, ps, σ, h => by
    simp only [stl, Except.ok.injEq] at h
    subst h
    rfl
  | f :: ws, pile, ps, σ, h => by
    rw [stl] at h
    by_cases c : r' ≤ stg f.1
    · rw [if_pos c] at h
      rw [stl, if_pos (Int.le_trans hr c)]
      cases e : comb f.1 f.2.1 pile ps with
      | ok q =>
        rw [e] at h
        exact stl_stl_ok hr ws q.1 q.2 σ h
      | error x => rw [e] at h; cases h
    · rw [if_neg c] at h
      simp only [Except.ok.injEq] at h
      subst h
      rfl
theorem stl_stl_er {r r' : Int} (hr : r ≤ r') : ∀ (ws : List Fr) (pile : List Nat) (ps : List Pt) (x : Nat), stl r' ws pile ps = .error x → stl r ws pile ps = .error x
  | [], pile, ps, x, h => by simp [stl] at h
  | f :: ws, pile, ps, x, h => by
    rw [stl] at h
    by_cases c : r' ≤ stg f.1
    · rw [if_pos c] at h
      rw [stl, if_pos (Int.le_trans hr c)]
      cases e : comb f.1 f.2.1 pile ps with
      | ok q =>
        rw [e] at h
        exact stl_stl_er hr ws q.1 q.2 x h
      | error y => rw [e] at h; exact h
    · rw [if_neg c] at h
      cases h
/-! THE TAPE'S TOKENS: sg the signs, n how many -/
def isDg (c : Nat) : Bool := 48 ≤ c && c ≤ 57
def sgn (sg : Nat → Nat) (n i : Nat) : Nat := if i < n then sg i else 0
def skp (sg : Nat → Nat) (n : Nat) : Nat → Nat → Nat
  | 0, i => i
  | k + 1, i => if i < n ∧ sg i = 32 then skp sg n k (i + 1) else i
/-- the row of digits from i on: its end -/
def dgE (sg : Nat → Nat) (n : Nat) : Nat → Nat → Nat
  | 0, i => i
  | k + 1, i => if i < n ∧ isDg (sg i) = true then dgE sg n k (i + 1) else i
def dgV (sg : Nat → Nat) (i : Nat) : Nat → Nat
  | 0 => 0
  | k + 1 => dgV sg i k * 10 + (sg (i + k) - 48)
def dbl (a b : Nat) : Nat := if a = 38 ∧ b = 38 then 21 else if a = 124 ∧ b = 124 then 22 else if b = 61 then (if a = 60 then 15 else if a = 62 then 17 else if a = 61 then 18 else if a = 33 then 19 else 0) else 0
def sng (a : Nat) : Nat := if a = 40 then 4 else if a = 41 then 5 else if a = 44 then 6 else if a = 63 then 7 else if a = 58 then 8 else if a = 43 then 9 else if a = 45 then 10 else if a = 42 then 11 else if a = 47 then 12 else if a = 37 then 13 else if a = 60 then 14 else if a = 62 then 16 else if a = 33 then 20 else 0
def wrd (a b c : Nat) : Nat := if a = 109 ∧ b = 105 ∧ c = 110 then 23 else if a = 109 ∧ b = 97 ∧ c = 120 then 24 else if a = 97 ∧ b = 98 ∧ c = 115 then 25 else 0
/-- token, place, number, where the next begins -/
def tok (sg : Nat → Nat) (n i0 : Nat) : Nat × Nat × Nat × Nat :=
  let i := skp sg n n i0
  let a := sgn sg n i
  let b := sgn sg n (i + 1)
  let c := sgn sg n (i + 2)
  if n ≤ i then (1, i, 0, i)
  else if isDg a = true then
    let j := dgE sg n n i
    if j - i ≤ 10 ∧ dgV sg i (j - i) ≤ 2000000000 then (2, i, dgV sg i (j - i), j) else (0, i, 0, j)
  else if a = 118 then
    (if isDg b = true then (if isDg c = true then (3, i, (b - 48) * 10 + (c - 48), i + 3) else (3, i, b - 48, i + 2)) else (0, i, 0, i))
  else if a = 109 ∨ a = 97 then (wrd a b c, i, 0, i + 3)
  else if dbl a b ≠ 0 then (dbl a b, i, 0, i + 2) else (sng a, i, 0, i + 1)
/-! ITS STEPS. Modes: 0 wants an operand, 1 wants a bracket, 2 wants an operator, 3 is done. -/
abbrev Vr : Type := Nat × (Nat → Int) × (Nat → Int)
abbrev Tk : Type := Nat × Nat × Nat × Nat
def nestS (op m : Nat) (pl : Nat) (σ : St) : Except Nat (Nat × St) := if 32 ≤ nst σ.1 then .error (5 + 8 * pl) else .ok (m, (op, pl, 0) :: σ.1, σ.2)
def leafS (σ : St) (p : Pt) : Except Nat (Nat × St) := match addp σ.2.1 σ.2.2 p with
  | .ok q => .ok (2, σ.1, q)
  | .error e => .error e
def stepB (vr : Vr) (t : Tk) (σ : St) : Except Nat (Nat × St) :=
  if t.1 = 2 then leafS σ (2, t.2.1, 0, (t.2.2.1 : Int), (t.2.2.1 : Int), 0, 0, 0, 1)
  else if t.1 = 3 then (if t.2.2.1 < vr.1 then leafS σ (3, t.2.1, 0, vr.2.1 t.2.2.1, vr.2.2 t.2.2.1, 0, 0, t.2.2.1, 1) else .error (1 + 8 * t.2.1))
  else if t.1 = 10 then nestS 26 0 t.2.1 σ
  else if t.1 = 20 ∨ t.1 = 4 then nestS t.1 0 t.2.1 σ
  else if t.1 = 23 ∨ t.1 = 24 ∨ t.1 = 25 then nestS t.1 1 t.2.1 σ
  else .error (1 + 8 * t.2.1)
/-- a token that ends a term -/
noncomputable def endT (t : Tk) (σ : St) : Except Nat (Nat × St) :=
  match stl 0 σ.1 σ.2.1 σ.2.2 with
  | .error e => .error e
  | .ok ([], q) => if t.1 = 1 then .ok (3, [], q) else .error (1 + 8 * t.2.1)
  | .ok ((op, pl, cn) :: ws, q) =>
    if op = 25 ∨ ((op = 23 ∨ op = 24) ∧ cn = 1) then (match comb op pl q.1 q.2 with
      | .error e => .error e
      | .ok q2 => if t.1 = 5 then .ok (2, ws, q2) else .error (1 + 8 * t.2.1))
    else if op = 4 then (if t.1 = 5 then .ok (2, ws, q) else .error (1 + 8 * t.2.1))
    else if op = 7 then (if t.1 = 8 then .ok (0, (27, pl, 0) :: ws, q) else .error (1 + 8 * t.2.1))
    else (if t.1 = 6 then .ok (0, (op, pl, 1) :: ws, q) else .error (1 + 8 * t.2.1))
def topS : List Fr → Int
  | [] => -1
  | f :: _ => stg f.1
def isBin (op : Nat) : Bool := (9 ≤ op && op ≤ 19) || op == 21 || op == 22
noncomputable def stepO (t : Tk) (σ : St) : Except Nat (Nat × St) :=
  if isBin t.1 = true then
    (match stl (if stg t.1 = 3 then 4 else stg t.1) σ.1 σ.2.1 σ.2.2 with
    | .error e => .error e
    | .ok σ1 => if stg t.1 = 3 ∧ topS σ1.1 = 3 then endT t σ1 else .ok (0, (t.1, t.2.1, 0) :: σ1.1, σ1.2))
  else if t.1 = 7 then
    (match stl 1 σ.1 σ.2.1 σ.2.2 with
    | .error e => .error e
    | .ok σ1 => nestS 7 0 t.2.1 σ1)
  else endT t σ
noncomputable def stepM (vr : Vr) (m : Nat) (t : Tk) (σ : St) : Except Nat (Nat × St) :=
  if m = 0 then stepB vr t σ else if m = 1 then (if t.1 = 4 then .ok (0, σ) else .error (1 + 8 * t.2.1)) else stepO t σ
noncomputable def runT (sg : Nat → Nat) (n : Nat) (vr : Vr) : Nat → Nat → Nat → St → Except Nat (List Pt)
  | 0, _, _, _ => .error 0
  | k + 1, m, i, σ => match stepM vr m (tok sg n i) σ with
    | .error e => .error e
    | .ok q => if q.1 = 3 then .ok q.2.2.2 else runT sg n vr k q.1 (tok sg n i).2.2.2 q.2
