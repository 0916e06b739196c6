/-! WHAT LOOK ASKS, told over the tree as lists: names known (word, type; the newest first), types of nodes (T), DEFS before (word, types of PARAMS, node). None: a fault. -/
abbrev kE : Type := List (Int × Int)
abbrev kD : Type := List (Int × List Int × Int)
def kFind (e : kE) (w : Int) : Option Int := match e with
  | [] => none
  | x :: r => if x.1 = w then some x.2 else kFind r w
/-- the newest DEF of that name: ds has the newest first -/
def kDef (ds : kD) (w : Int) : Option (List Int × Int) := match ds with
  | [] => none
  | x :: r => if x.1 = w then some x.2 else kDef r w
def kIs (is : Bool) (ty : Int) : Option Int := if is = true ∧ ty ≤ 3 then some ty else none
/-- the type of an ACT of kind k with parts of types ts -/
def kAct (k : Int) (ts : List Int) : Option Int :=
  let a := ts.getD 0 0
  let b := ts.getD 1 0
  let h1 := decide (ts.length = 1)
  let h2 := decide (ts.length = 2)
  if k = 16 then kIs (h1 && decide (a = 0)) 1
  else if k = 17 then kIs (h2 && decide (b = 0)) (a + 1)
  else if k = 18 ∨ k = 19 ∨ k = 20 then kIs (h1 && decide (a = 1)) 0
  else if k = 21 then kIs (h1 && decide (a = 1)) 1
  else if k = 22 then kIs (h1 && decide (0 < a)) a
  else if k = 23 then kIs (h2 && decide (0 < a) && decide (a = b)) a
  else if k = 24 then kIs (h1 && decide (1 < a)) (a - 1)
  else if k = 25 ∨ k = 26 then kIs (h2 && decide (0 < a) && decide (b = 1)) a
  else kIs (h2 && decide (0 < a) && decide (b = 1)) (a + 1)
/-- the type of node n, the types of its parts (in the order of kids) being ts -/
def kTy (A : aT) (ds : kD) (T : Int → Int) (e : kE) (n : Int) (ts : List Int) : Option Int :=
  let k := A.2.1 n
  let a := ts.getD 0 0
  let b := ts.getD 1 0
  if k = 0 then some 0
  else if k = 1 then kFind e (A.2.2.2.1 n)
  else if k = 2 then some b
  else if k = 3 then kIs (decide (a = 0) && decide (b = ts.getD 2 0)) b
  else if k < 11 then kIs (decide (a = 0) && decide (b = 0)) 0
  else if k = 11 then kIs (decide (0 < a)) 0
  else if k = 12 then kIs (decide (0 < a) && decide (b = 0)) (a - 1)
  else if k = 13 then (match kDef ds (A.2.2.2.1 n) with
    | none => none
    | some (ps, r) => kIs (decide (ts = ps)) (T r))
  else if k = 14 then kIs (ts.all (fun x => decide (x = a))) (a + 1)
  else if k = 15 then kIs (decide (ts.length ≠ 2 + (A.2.2.2.2.2 n).length) || decide (ts.getD (ts.length - 1) 0 = 0)) (a + 1)
  else kAct k ts
/-- nodes one after another under the same names -/
def kRow (go : kE → Int → (Int → Int) → Option (Int → Int)) (e : kE) : List Int → (Int → Int) → Option (Int → Int)
  | [], T => some T
  | x :: r, T => match go e x T with
    | none => none
    | some T1 => kRow go e r T1
/-- names that GENS bind, the newest first, before e -/
def kBind (T : Int → Int) : List (Int × Int) → List Int → kE → kE
  | g :: gs, x :: xs, e => kBind T gs xs ((g.1, T x - 1) :: e)
  | _, _, e => e
def kGens (T : Int → Int) (gs : List (Int × Int)) (xs : List Int) : Bool := decide ((gs.map (·.1)).Nodup) && xs.all (fun x => decide (0 < T x))
/-- parts of n, and what they bind -/
def kParts (A : aT) (go : kE → Int → (Int → Int) → Option (Int → Int)) (e : kE) (n : Int) (T : Int → Int) : Option (Int → Int) :=
  let ks := A.2.2.2.2.1 n
  let gs := A.2.2.2.2.2 n
  if A.2.1 n = 2 then (match ks with
    | a :: r => (match go e a T with
      | none => none
      | some T1 => kRow go ((A.2.2.2.1 n, T1 a) :: e) r T1)
    | [] => some T)
  else if A.2.1 n = 15 then (match ks with
    | body :: r => (match kRow go e (r.take gs.length) T with
      | none => none
      | some T1 => if kGens T1 gs (r.take gs.length) = true then kRow go (kBind T1 gs (r.take gs.length) e) (r.drop gs.length ++ [body]) T1 else none)
    | [] => some T)
  else kRow go e ks T
/-- node n with all below it: f levels -/
def kGo (A : aT) (ds : kD) : Nat → kE → Int → (Int → Int) → Option (Int → Int)
  | 0, _, _, _ => none
  | f + 1, e, n, T => match kParts A (kGo A ds f) e n T with
    | none => none
    | some T1 => match kTy A ds T1 e n ((A.2.2.2.2.1 n).map T1) with
      | none => none
      | some ty => some (aU T1 n ty)
/-- the number of the newest DEF of that name -/
def kDx (ds : kD) (w : Int) : Option Int := match ds with
  | [] => none
  | x :: r => if x.1 = w then some (r.length : Int) else kDx r w
/-- binders of GENS, the newest first, before eb -/
def kGb (n : Int) : Nat → List (Int × Int) → kE → kE
  | _, [], eb => eb
  | j, g :: gs, eb => kGb n (j + 1) gs ((g.1, 210 + 4 * n + j) :: eb)
/-- binders of nodes (B) once n is looked at, under names bound by binders eb -/
def kUp (A : aT) (ds : kD) (eb : kE) (n : Int) (B : Int → Int) : Int → Int :=
  if A.2.1 n = 1 then (match kFind eb (A.2.2.2.1 n) with
    | none => B
    | some b => aU B n b)
  else if A.2.1 n = 13 then (match kDx ds (A.2.2.2.1 n) with
    | none => B
    | some d => aU B n d)
  else B
def kBoR (go : kE → Int → (Int → Int) → (Int → Int)) (eb : kE) : List Int → (Int → Int) → (Int → Int)
  | [], B => B
  | x :: r, B => kBoR go eb r (go eb x B)
def kBo (A : aT) (ds : kD) : Nat → kE → Int → (Int → Int) → (Int → Int)
  | 0, _, _, B => B
  | f + 1, eb, n, B => kUp A ds eb n (if A.2.1 n = 2 then (match A.2.2.2.2.1 n with
      | a :: r => kBoR (kBo A ds f) ((A.2.2.2.1 n, n) :: eb) r (kBo A ds f eb a B)
      | [] => B)
    else if A.2.1 n = 15 then (match A.2.2.2.2.1 n with
      | body :: r => kBoR (kBo A ds f) (kGb n 0 (A.2.2.2.2.2 n) eb) (r.drop (A.2.2.2.2.2 n).length ++ [body]) (kBoR (kBo A ds f) eb (r.take (A.2.2.2.2.2 n).length) B)
      | [] => B)
    else kBoR (kBo A ds f) eb (A.2.2.2.2.1 n) B)
/-- turns of a walk over n and all below it -/
def kSz (A : aT) : Nat → Int → Nat
  | 0, _ => 0
  | f + 1, n => 1 + ((A.2.2.2.2.1 n).map (fun x => 1 + kSz A f x)).sum
/-- a DEF: its PARAMS, then its EXPR -/
def kDf (A : aT) (ds : kD) (x : aDf) (T : Int → Int) : Option ((Int → Int) × kD) :=
  if (kDef ds x.1 = none) ∧ (x.2.2.1.map (·.1)).Nodup ∧ (∀ p ∈ x.2.2.1, p.2.2 ≤ 3) then (match kGo A ds 201 (x.2.2.1.reverse.map (fun p => (p.1, p.2.2))) x.2.2.2 T with
    | none => none
    | some T1 => some (T1, (x.1, x.2.2.1.map (·.2.2), x.2.2.2) :: ds)) else none
def kDs (A : aT) : List aDf → kD → (Int → Int) → Option ((Int → Int) × kD)
  | [], ds, T => some (T, ds)
  | x :: r, ds, T => match kDf A ds x T with
    | none => none
    | some (T1, ds1) => kDs A r ds1 T1
/-- the whole PROGRAM -/
def kPg (A : aT) (D : List aDf) (q : Int) (T : Int → Int) : Option (Int → Int) := match kDs A D [] T with
  | none => none
  | some (T1, ds) => kGo A ds 201 [] q T1
/-- a TYPE more than 3 deep is a fault: so where the readers differ, look says no -/
theorem kDf_bad {A : aT} {ds : kD} {x : aDf} {T : Int → Int} (h : ∃ p ∈ x.2.2.1, 3 < p.2.2) : kDf A ds x T = none := by
  obtain ⟨p, h1, h2⟩ := h
  unfold kDf
  rw [if_neg]
  rintro ⟨-, -, h3⟩
  have := h3 p h1
  omega
theorem kDs_bad {A : aT} : ∀ (D : List aDf) (ds : kD) (T : Int → Int), (∃ x ∈ D, ∃ p ∈ x.2.2.1, 3 < p.2.2) → kDs A D ds T = none
  | [], _, _, h => by obtain ⟨x, h, -⟩ := h; simp at h
  | x :: r, ds, T, h => by
    obtain ⟨y, h1, h2⟩ := h
    unfold kDs
    rcases List.mem_cons.mp h1 with e | e
    · subst e
      rw [kDf_bad h2]
    · cases hh : kDf A ds x T with
      | none => rfl
      | some v => exact kDs_bad r _ _ ⟨y, e, h2⟩
