/-! DEFS and the whole, told over tokens. -/
section PDF
variable (c : tkC)
def pTyL : Nat → Int → Nat → Nat × Int
  | 0, dp, i => (i, dp)
  | m + 1, dp, i => if tK c i = 91 then pTyL m (dp + 1) (i + 1) else (i, dp)
def pTyR : Nat → Nat → Option Nat
  | 0, i => some i
  | m + 1, i => if tK c i = 93 then pTyR m (i + 1) else none
def pTyF (dp : Int) (r : Option Nat) : Option (Nat × Int) := match r with
  | none => none
  | some i' => some (i', dp)
def pTyE (r : Nat × Int) : Option (Nat × Int) := if tK c r.1 = 258 then (if tW c r.1 = 6909556 then pTyF r.2 (pTyR c r.2.toNat (r.1 + 1)) else none) else none
def pType (i : Nat) : Option (Nat × Int) := pTyE c (pTyL c 12 0 i)
def pDAdd (τ : sg_S) (w p : Int) : sg_S := sg_w (sx_put (sx_put (sx_putl τ 20 12 (sg_g τ 19 8) w) 21 12 (sg_g τ 19 8) p) 23 12 (sg_g τ 19 8) 0) 19 8 (sg_g τ 19 8 + 1)
def pDPar (τ : sg_S) (d w p : Int) : sg_S := sx_put (sx_put (sx_putl τ 25 72 (sg_n (d * 6 + sx_at τ 23 12 d)) w) 26 72 (sg_n (d * 6 + sx_at τ 23 12 d)) p) 23 12 d (sx_at (sx_put (sx_putl τ 25 72 (sg_n (d * 6 + sx_at τ 23 12 d)) w) 26 72 (sg_n (d * 6 + sx_at τ 23 12 d)) p) 23 12 d + 1)
def pTitle (d : Int) (i : Nat) (τ : sg_S) : Option (Nat × sg_S) := if 12 ≤ d then none else (if tK c (i + 1) = 258 then (if tK c (i + 1 + 1) = 40 then some (i + 1 + 1 + 1, pDAdd τ (tW c (i + 1)) (tPl c (i + 1))) else none) else none)
def pParL (d : Int) : Nat → Nat → sg_S → Option (Nat × sg_S)
  | 0, i, τ => some (i, τ)
  | m + 1, i, τ => if tK c i = 258 ∧ ¬ m = 0 then (if tK c (i + 1) = 58 then (match pType c (i + 1 + 1) with
    | none => none
    | some (i1, dp) => if tK c i1 = 44 then pParL d m (i1 + 1) (sx_put (pDPar τ d (tW c i) (tPl c i)) 27 72 (d * 6 + (6 - m)) dp) else some (i1, sx_put (pDPar τ d (tW c i) (tPl c i)) 27 72 (d * 6 + (6 - m)) dp)) else none) else none
def pParE (r : Option (Nat × sg_S)) : Option (Nat × sg_S) := match r with
  | none => none
  | some (i1, τ1) => if tK c i1 = 41 then some (i1 + 1, τ1) else none
def pPars (d : Int) (i : Nat) (τ : sg_S) : Option (Nat × sg_S) := pParE c (if tK c i = 41 then some (i, τ) else pParL c d 7 i τ)
def pMean (E : pF) (d : Int) (i : Nat) (τ : sg_S) : Option (Nat × sg_S) := if tK c i = 61 then (match E (i + 1) τ with
  | none => none
  | some (i1, τ1, r) => if tK c i1 = 59 then some (i1 + 1, sx_put τ1 22 12 d r) else none) else none
def pDefs (E : pF) : Nat → Nat → sg_S → Option (Nat × sg_S)
  | 0, i, τ => some (i, τ)
  | m + 1, i, τ => if tK c i = 261 then (match pTitle c (12 - m) i τ with
    | none => none
    | some (i1, τ1) => match pPars c (12 - m) i1 τ1 with
      | none => none
      | some (i2, τ2) => match pMean c E (12 - m) i2 τ2 with
        | none => none
        | some (i3, τ3) => pDefs E m i3 τ3) else some (i, τ)
def pRest (E : pF) (r : Option (Nat × sg_S)) : Option (sg_S × Int) := match r with
  | none => none
  | some (i1, τ1) => match E i1 τ1 with
    | none => none
    | some (i2, τ2, r) => if tK c i2 = 256 then some (τ2, r) else none
def pParse (E : pF) (τ : sg_S) : Option (sg_S × Int) := pRest c E (pDefs c E 13 0 (sg_w (sg_w τ 2 16 0) 19 8 0))
end PDF
abbrev pL1 : List Nat := [3, 4, 5, 6, 7, 8, 9, 10, 11, 12, 13, 14, 15, 16, 17, 18, 20, 21, 22, 23, 24, 25, 26, 27, 4035, 4036, 5036, 6036, 7036, 8036, 9019, 17002]
/-- a DEF's piece: it answers nothing -/
def cD (c : tkC) (d j : Nat) (dd : Int) (pre : Int → Prop) (P : Nat → sg_S → Option (Nat × sg_S)) : Prop := ∀ (z : Value) (σ : sg_S) (i : Nat) (τ : sg_S), te σ τ → tk c σ i → pre (tK c i) → wx z d j 0 [(0, .inr (.inr (.ref 35))), (1, .inl dd)] [] σ (pqN pL1 c (P i τ) σ)
