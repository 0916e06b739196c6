/-! THE FLAT RUN of a PROGRAM, told as a function: each part for all lanes at once. -/
/-- STEPS, CELLS, the most LANES -/
abbrev fSt : Type := Int × Int × Int
abbrev fEv : Type := Int → List vaF
abbrev fRs : Type := (Int × fSt) ⊕ (List vaF × fSt × fEv)
abbrev fRl : Type := (Int × fSt) ⊕ (List (List vaF) × fSt × fEv)
/-- a STEP of c CELLS -/
def fStp (c : Int) (s : fSt) : Option fSt := if s.1 = 2000 ∨ 6000 < s.2.1 + c then none else some (s.1 + 1, s.2.1 + c, s.2.2)
/-- what a lane comes to -/
def unw : Int ⊕ (vaF × Int) → Int ⊕ vaF
  | .inl e => .inl e
  | .inr p => .inr p.1
def fO1 (k ty x : Int) (vs : List (List vaF)) (i : Nat) : Int ⊕ vaF := unw (eO k ty x (vs.map (fun l => l.getD i (nmF 0))))
def fOl (k ty x : Int) (vs : List (List vaF)) (n : Nat) : List (Int ⊕ vaF) := (List.range n).map (fO1 k ty x vs)
def fOv : Int ⊕ vaF → vaF
  | .inl _ => nmF 0
  | .inr v => v
/-- the FINDING of the least lane, or 0 -/
def fOe : List (Int ⊕ vaF) → Int
  | [] => 0
  | .inl e :: r => if e = 0 then fOe r else e
  | .inr _ :: r => fOe r
/-- a STEP of a node behind its parts -/
def fWk (k ty x : Int) (vs : List (List vaF)) (n : Nat) (s : fSt) (ρ : fEv) : fRs := match fStp (exF ty.toNat ((fOl k ty x vs n).map fOv)) s with
  | none => .inl (8, s)
  | some s1 => if fOe (fOl k ty x vs n) = 0 then .inr ((fOl k ty x vs n).map fOv, s1, ρ) else .inl (fOe (fOl k ty x vs n), s1)
/-- lanes, picked -/
def fPk (l : List vaF) (ks : List Nat) : List vaF := ks.map (fun k => l.getD k (nmF 0))
/-- lanes where a row is not 0 (b), or is 0 -/
def fWh (b : Bool) (c : List vaF) : List Nat := (List.range c.length).filter (fun i : Nat => decide ((c.getD i (nmF 0)) [] = 0) != b)
/-- variables, carried along into other lanes -/
def fCa (ty : Int → Int) (ks : List Nat) : List Int → fSt → fEv → (Int × fSt) ⊕ (fSt × fEv)
  | [], s, ρ => .inr (s, ρ)
  | b :: r, s, ρ => match fStp (exF (ty b).toNat (fPk (ρ b) ks)) s with
    | none => .inl (8, s)
    | some s1 => fCa ty ks r s1 (fun x => if x = b then fPk (ρ b) ks else ρ x)
/-- what was carried is put back -/
def fBk (bs : List Int) (ρ ρ' : fEv) : fEv := fun b => if b ∈ bs then ρ b else ρ' b
/-- parts one after another -/
def fSq (go : Int → fEv → fSt → fRs) : List Int → fEv → fSt → fRl
  | [], ρ, s => .inr ([], s, ρ)
  | x :: r, ρ, s => match go x ρ s with
    | .inl e => .inl e
    | .inr (v, s1, ρ1) => match fSq go r ρ1 s1 with
      | .inl e => .inl e
      | .inr (vs, s2, ρ2) => .inr (v :: vs, s2, ρ2)
def fUs (ρ : fEv) (b : Int) : Nat → List (List vaF) → fEv
  | _, [] => ρ
  | j, v :: r => fUs (fun x => if x = b + j then v else ρ x) b (j + 1) r
/-- lanes put together: from the first where c is not 0, from the second where it is 0 -/
def fMg : List vaF → List vaF → List vaF → List vaF
  | [], _, _ => []
  | c :: r, a, b => if c [] = 0 then b.headD (nmF 0) :: fMg r a b.tail else a.headD (nmF 0) :: fMg r a.tail b
/-- values, cut into sequences of given lengths -/
def fCt : List Nat → List vaF → List vaF
  | [], _ => []
  | n :: r, l => mkF (l.take n) :: fCt r (l.drop n)
