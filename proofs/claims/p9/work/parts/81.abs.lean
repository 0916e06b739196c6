/-! THE TREE, told as lists: size, kind, place, word, kids, gens of each node. The reader of the reference as a function over its tokens. -/
abbrev aT : Type := Int × (Int → Int) × (Int → Int) × (Int → Int) × (Int → List Int) × (Int → List (Int × Int))
abbrev aK : Type := (Nat → Int) × (Nat → Int) × (Nat → Int)
abbrev aO : Type := Option (Nat × aT × Int)
abbrev aF : Type := Nat → aT → aO
def aU {α : Type} (f : Int → α) (k : Int) (v : α) : Int → α := fun j => if j = k then v else f j
def aNew (A : aT) (kd pl w : Int) : aT := (A.1 + 1, aU A.2.1 A.1 kd, aU A.2.2.1 A.1 pl, aU A.2.2.2.1 A.1 w, aU A.2.2.2.2.1 A.1 [], aU A.2.2.2.2.2 A.1 [])
def aKid (A : aT) (n q : Int) : aT := (A.1, A.2.1, A.2.2.1, A.2.2.2.1, aU A.2.2.2.2.1 n (A.2.2.2.2.1 n ++ [q]), A.2.2.2.2.2)
def aWd (A : aT) (n w : Int) : aT := (A.1, A.2.1, A.2.2.1, aU A.2.2.2.1 n w, A.2.2.2.2.1, A.2.2.2.2.2)
def aGn (A : aT) (n w p : Int) : aT := (A.1, A.2.1, A.2.2.1, A.2.2.2.1, A.2.2.2.2.1, aU A.2.2.2.2.2 n (A.2.2.2.2.2 n ++ [(w, p)]))
section ABS
variable (t : aK)
def aSg (i : Nat) (ch : Int) : Bool := decide (t.1 i = 3 ∧ t.2.1 i = ch)
def aWo (i : Nat) (w : Int) : Bool := decide (t.1 i = 2 ∧ t.2.1 i = w)
def aNm (i : Nat) : Bool := decide (t.1 i = 2 ∧ v_isReserved (t.2.1 i) = 0)
def aMk (i : Nat) (A : aT) (kd : Int) : Option (aT × Int) := if A.1 = 200 then none else some (aNew A kd (t.2.2 i) (t.2.1 i), A.1)
def aLet (E : aF) (i : Nat) (A : aT) : aO := match aMk t i A 2 with
  | none => none
  | some (A1, n) => if aNm t (i + 1) = true then (if aSg t (i + 2) 61 = true then (match E (i + 3) (aWd A1 n (t.2.1 (i + 1))) with
    | none => none
    | some (i2, A2, a) => if aWo t i2 374 = true then (match E (i2 + 1) (aKid A2 n a) with
      | none => none
      | some (i3, A3, b) => some (i3, aKid A3 n b, n)) else none) else none) else none
def aIf (E : aF) (i : Nat) (A : aT) : aO := match aMk t i A 3 with
  | none => none
  | some (A1, n) => match E (i + 1) A1 with
    | none => none
    | some (i2, A2, a) => if aWo t i2 1293014 = true then (match E (i2 + 1) (aKid A2 n a) with
      | none => none
      | some (i3, A3, b) => if aWo t i3 339965 = true then (match E (i3 + 1) (aKid A3 n b) with
        | none => none
        | some (i4, A4, e) => some (i4, aKid A4 n e, n)) else none) else none
/-- a sign between two operands: which node it makes; none: it is none -/
def aqC (i : Nat) : Option Int := if aSg t i 60 = true then some 4 else if aSg t i 61 = true then some 5 else none
def aqS (i : Nat) : Option Int := if aSg t i 43 = true then some 6 else if aSg t i 45 = true then some 7 else none
def aqP (i : Nat) : Option Int := if aSg t i 42 = true then some 8 else if aSg t i 47 = true then some 9 else if aSg t i 37 = true then some 10 else none
/-- behind the left operand l: the sign's node and the right operand -/
def aBtw (kd : Int) (S : aF) (l : Int) (i : Nat) (A : aT) : aO := match aMk t i A kd with
  | none => none
  | some (A1, n) => match S (i + 1) (aKid A1 n l) with
    | none => none
    | some (i2, A2, r) => some (i2, aKid A2 n r, n)
def aCmpR (S : aF) (l : Int) (i : Nat) (A : aT) : aO := match aqC t i with
  | none => some (i, A, l)
  | some kd => aBtw t kd S l i A
def aCmp (S : aF) (i : Nat) (A : aT) : aO := match S i A with
  | none => none
  | some (i1, A1, l) => aCmpR t S l i1 A1
def aRowL (q : Nat → Option Int) (P : aF) : Nat → Int → aF
  | 0, l, i, A => some (i, A, l)
  | m + 1, l, i, A => match q i with
    | none => some (i, A, l)
    | some kd => match aBtw t kd P l i A with
      | none => none
      | some (i2, A2, n) => aRowL q P m n i2 A2
def aRowR (q : Nat → Option Int) (P : aF) (l : Int) (i : Nat) (A : aT) : aO := aRowL t q P (201 - A.1).toNat l i A
def aRow (q : Nat → Option Int) (P : aF) (i : Nat) (A : aT) : aO := match P i A with
  | none => none
  | some (i1, A1, l) => aRowR t q P l i1 A1
/-- [ EXPR ] behind an ITEM; w: whether one more may lie within; E: what lies within -/
def aIdx (E : aF) (l : Int) (i : Nat) (A : aT) : aO := match aMk t i A 12 with
  | none => none
  | some (A1, n) => match E (i + 1) (aKid A1 n l) with
    | none => none
    | some (i2, A2, r) => if aSg t i2 93 = true then some (i2 + 1, aKid A2 n r, n) else none
def aBehL (w : Bool) (E : aF) : Nat → Int → aF
  | 0, l, i, A => some (i, A, l)
  | m + 1, l, i, A => if aSg t i 91 = true then (if w = true then (match aIdx t E l i A with
    | none => none
    | some (i2, A2, n) => aBehL w E m n i2 A2) else none) else some (i, A, l)
def aBeh (w : Bool) (E : aF) (l : Int) (i : Nat) (A : aT) : aO := aBehL t w E (201 - A.1).toNat l i A
/-- the parts of a call or a row, as many as stand there, up to its closing sign -/
def aLstL (E : aF) (n ch : Int) : Nat → Nat → aT → Option (Nat × aT)
  | 0, _, _ => none
  | m + 1, i, A => match E i A with
    | none => none
    | some (i1, A1, r) => if aSg t i1 44 = true then aLstL E n ch m (i1 + 1) (aKid A1 n r) else if aSg t i1 ch = true then some (i1 + 1, aKid A1 n r) else none
def aLst (E : aF) (n ch : Int) (i : Nat) (A : aT) : aO := match aLstL t E n ch (201 - A.1).toNat i A with
  | none => none
  | some (i1, A1) => some (i1, A1, n)
def aArgs (E : aF) (n : Int) (i : Nat) (A : aT) : aO := if aSg t i 41 = true then some (i + 1, A, n) else aLst t E n 41 i A
def aWrd (w : Bool) (E : aF) (i : Nat) (A : aT) : aO :=
  if v_actOf (t.2.1 i) = 0 then (if aNm t i = true then (if aSg t (i + 1) 40 = true then (match aMk t i A 13 with
    | none => none
    | some (A1, n) => if w = true then aArgs t E n (i + 2) A1 else none) else (match aMk t i A 1 with
    | none => none
    | some (A1, n) => some (i + 1, A1, n))) else none)
  else (match aMk t i A (v_actOf (t.2.1 i)) with
    | none => none
    | some (A1, n) => if aSg t (i + 1) 40 = true then (if w = true then aArgs t E n (i + 2) A1 else none) else none)
def aGenL (E : aF) (n : Int) : Nat → Nat → aT → Option (Nat × aT)
  | 0, _, _ => none
  | m + 1, i, A => if aNm t i = true then (if aWo t (i + 1) 374 = true then (match E (i + 2) (aGn A n (t.2.1 i) (t.2.2 i)) with
    | none => none
    | some (i1, A1, r) => if aSg t i1 44 = true ∧ ((aKid A1 n r).2.2.2.2.1 n).length = 1 + ((aKid A1 n r).2.2.2.2.2 n).length then aGenL E n m (i1 + 1) (aKid A1 n r) else some (i1, aKid A1 n r)) else none) else none
def aEnd (n : Int) (i : Nat) (A : aT) : aO := if aSg t i 125 = true then some (i + 1, A, n) else none
def aGrd (E : aF) (n : Int) (i : Nat) (A : aT) : aO := if aSg t i 124 = true then (match E (i + 1) A with
    | none => none
    | some (i1, A1, r) => aEnd t n i1 (aKid A1 n r)) else aEnd t n i A
def aGens (E : aF) (n : Int) (i : Nat) (A : aT) : aO := match aGenL t E n (4 - (A.2.2.2.2.2 n).length) i A with
  | none => none
  | some (i1, A1) => aGrd t E n i1 A1
def aEach (E : aF) (i : Nat) (A : aT) : aO := match aMk t i A 15 with
  | none => none
  | some (A1, n) => match E (i + 1) A1 with
    | none => none
    | some (i2, A2, b) => if aSg t i2 58 = true then aGens t E n (i2 + 1) (aKid A2 n b) else none
def aPar (E : aF) (i : Nat) (A : aT) : aO := match E (i + 1) A with
  | none => none
  | some (i1, A1, r) => if aSg t i1 41 = true then some (i1 + 1, A1, r) else none
def aRw (E : aF) (i : Nat) (A : aT) : aO := match aMk t i A 14 with
  | none => none
  | some (A1, n) => aLst t E n 93 (i + 1) A1
def aAtm (w : Bool) (E : aF) (i : Nat) (A : aT) : aO :=
  if t.1 i = 1 then (match aMk t i A 0 with
    | none => none
    | some (A1, n) => some (i + 1, A1, n))
  else if t.1 i = 2 then aWrd t w E i A
  else if aSg t i 40 = true then (if w = true then aPar t E i A else none)
  else if aSg t i 91 = true then (if w = true then aRw t E i A else none)
  else if aSg t i 123 = true then (if w = true then aEach t E i A else none)
  else none
def aItm (w : Bool) (E : aF) (i : Nat) (A : aT) : aO := match aAtm t w E i A with
  | none => none
  | some (i1, A1, l) => aBeh t w E l i1 A1
def aUn (w : Bool) (E U : aF) (i : Nat) (A : aT) : aO := if aSg t i 35 = true then (if w = true then (match aMk t i A 11 with
    | none => none
    | some (A1, n) => match U (i + 1) A1 with
      | none => none
      | some (i2, A2, r) => some (i2, aKid A2 n r, n)) else none) else aItm t w E i A
def aPr (w : Bool) (E U : aF) : aF := aRow t (aqP t) (aUn t w E U)
def aSm (w : Bool) (E U : aF) : aF := aRow t (aqS t) (aPr t w E U)
def aCm (w : Bool) (E U : aF) : aF := aCmp t (aSm t w E U)
def aEx (w : Bool) (E U : aF) (i : Nat) (A : aT) : aO :=
  if aWo t i 19420 = true then (if w = true then aLet t E i A else none)
  else if aWo t i 366 = true then (if w = true then aIf t E i A else none)
  else aCm t w E U i A
/-- what lies within f more: EXPR and UNARY -/
def aLv : Nat → aF × aF
  | 0 => (aEx t false (fun _ _ => none) (fun _ _ => none), aUn t false (fun _ _ => none) (fun _ _ => none))
  | f + 1 => (aEx t true (aLv f).1 (aLv f).2, aUn t true (aLv f).1 (aLv f).2)
/-- within: whether one more may lie there, and what -/
def aW : Nat → Bool
  | 0 => false
  | _ + 1 => true
def aI (f : Nat) : aF := match f with
  | 0 => fun _ _ => none
  | g + 1 => (aLv t g).1
def aJ (f : Nat) : aF := match f with
  | 0 => fun _ _ => none
  | g + 1 => (aLv t g).2
theorem aLv_e (f : Nat) : aLv t f = (aEx t (aW f) (aI t f) (aJ t f), aUn t (aW f) (aI t f) (aJ t f)) := by cases f <;> rfl
end ABS
