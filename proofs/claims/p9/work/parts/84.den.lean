/-! WHAT A PILE COMES TO, and what piles are like. -/
abbrev aS : Type := Nat × aT × List Int × Nat
abbrev aP : Type := List (Int × Int)
section DEN
variable (t : aK)
def aPu (r : aO) (vs : List Int) (f : Nat) : Option aS := match r with
  | none => none
  | some (i, A, q) => some (i, A, q :: vs, f)
def aTp (g : Int → aO) (vs : List Int) (f : Nat) : Option aS := match vs with
  | [] => none
  | l :: r => aPu (g l) r f
def aCl (A : aT) (n : Int) : Int := if A.2.1 n = 14 then 93 else 41
def aLs (f : Nat) (n : Int) (i : Nat) (A : aT) : aO := if aSg t i 44 = true ∧ ¬ (A.2.2.2.2.1 n).length = 0 then aLst t (aLv t f).1 n (aCl A n) (i + 1) A else if aSg t i (aCl A n) = true then some (i + 1, A, n) else none
def aGd (f : Nat) (n : Int) (i : Nat) (A : aT) : aO := if aSg t i 44 = true ∧ (A.2.2.2.2.1 n).length = 1 + (A.2.2.2.2.2 n).length then aGens t (aLv t f).1 n (i + 1) A else aGrd t (aLv t f).1 n i A
def aCo (n : Int) : Int := if n = 0 then 374 else if n = 1 then 1293014 else 339965
def aDe (w n : Int) (i : Nat) (A : aT) (vs : List Int) (f : Nat) : Option aS :=
  if w = 0 then aPu ((aLv t f).1 i A) vs f
  else if w = 1 then aPu (aCm t (aW f) (aI t f) (aJ t f) i A) vs f
  else if w = 2 then aTp (fun l => aCmpR t (aSm t (aW f) (aI t f) (aJ t f)) l i A) vs f
  else if w = 3 then aPu (aSm t (aW f) (aI t f) (aJ t f) i A) vs f
  else if w = 4 then aTp (fun l => aRowR t (aqS t) (aPr t (aW f) (aI t f) (aJ t f)) l i A) vs f
  else if w = 5 then aPu (aPr t (aW f) (aI t f) (aJ t f) i A) vs f
  else if w = 6 then aTp (fun l => aRowR t (aqP t) (aUn t (aW f) (aI t f) (aJ t f)) l i A) vs f
  else if w = 7 then aPu ((aLv t f).2 i A) vs f
  else if w = 8 then aTp (fun l => aBeh t (aW f) (aI t f) l i A) vs f
  else if w = 9 then aPu (aAtm t (aW f) (aI t f) i A) vs f
  else if w = 10 then (match vs with
    | [] => none
    | q :: r => some (i, aKid A n q, r, f))
  else if w = 11 then some (i, A, n :: vs, f)
  else if w = 12 then some (i, A, vs, f + 1)
  else if w = 13 then (if aSg t i n = true then some (i + 1, A, vs, f) else none)
  else if w = 14 then (if aWo t i (aCo n) = true then some (i + 1, A, vs, f) else none)
  else if w = 15 then aPu (aLs t f n i A) vs (f + 1)
  else if w = 16 then aPu (aGens t (aLv t f).1 n i A) vs (f + 1)
  else aPu (aGd t f n i A) vs (f + 1)
def den : aP → Nat → aT → List Int → Nat → Option aS
  | [], i, A, vs, f => some (i, A, vs, f)
  | e :: P, i, A, vs, f => match aDe t e.1 e.2 i A vs f with
    | none => none
    | some (i', A', vs', f') => den P i' A' vs' f'
end DEN
/-- which close what was opened -/
def pcl (w : Int) : Bool := decide (w = 12 ∨ w = 15 ∨ w = 16 ∨ w = 17)
/-- how much higher its piece of the pile may yet grow -/
def pgr (w : Int) : Nat := if w = 0 ∨ w = 1 ∨ w = 2 then 9 else if w = 3 ∨ w = 4 then 7 else if w = 5 ∨ w = 6 then 4 else if w = 7 ∨ w = 8 then 1 else 0
def pht : aP → Nat
  | [] => 0
  | e :: P => if pcl e.1 = true then 0 else pht P + 1
def pwf : aP → Prop
  | [] => True
  | e :: P => ((pcl e.1 = true ∧ (16 ≤ e.1 → pht P ≤ 19)) ∨ pht P + 1 + pgr e.1 ≤ 20) ∧ pwf P
def pcn : aP → Nat
  | [] => 0
  | e :: P => (if pcl e.1 = true then 1 else 0) + pcn P
/-- the values that a pile finds, takes and leaves: one is left -/
def pok : aP → Nat → Prop
  | [], k => k = 1
  | e :: P, k => if e.1 = 10 then 1 ≤ k ∧ pok P (k - 1) else if e.1 = 2 ∨ e.1 = 4 ∨ e.1 = 6 ∨ e.1 = 8 then 1 ≤ k ∧ pok P k else if e.1 = 12 ∨ e.1 = 13 ∨ e.1 = 14 then pok P k else pok P (k + 1)
def pnd (S : Int) : aP → Prop
  | [] => True
  | e :: P => (0 ≤ e.1 ∧ e.1 ≤ 17) ∧ ((e.1 = 10 ∨ e.1 = 11 ∨ 15 ≤ e.1) → 0 ≤ e.2 ∧ e.2 < S) ∧ sg_R e.2 ∧ (e.1 = 14 → 0 ≤ e.2 ∧ e.2 ≤ 2) ∧ pnd S P
def pow : aP → Nat
  | [] => 0
  | e :: P => (if e.1 = 11 ∨ 15 ≤ e.1 then 1 else 0) + pow P
def pwt : aP → Nat
  | [] => 0
  | e :: P => (if e.1 = 0 then 10 else if e.1 = 1 then 9 else if e.1 = 3 then 7 else if e.1 = 5 then 5 else if e.1 = 7 then 3 else if e.1 = 17 then 4 else 1) + pwt P
theorem pcn_len : ∀ {P : aP}, pwf P → P.length ≤ 21 * pcn P + pht P ∧ pht P ≤ 20
  | [], _ => by simp [pcn, pht]
  | e :: P, h => by
    have ih := pcn_len h.2
    have h1 := h.1
    simp only [pcn, pht, List.length_cons]
    by_cases c : pcl e.1 = true
    · simp only [c, if_true]; omega
    · simp only [c, if_false, false_and, false_or, Bool.false_eq_true] at h1 ⊢; omega
theorem pok_len : ∀ {P : aP} {k : Nat}, pok P k → k ≤ 1 + P.length
  | [], k, h => by simp only [pok] at h; omega
  | e :: P, k, h => by
    simp only [List.length_cons]
    simp only [pok] at h
    split at h
    · have := pok_len h.2; omega
    · split at h
      · have := pok_len h.2; omega
      · split at h
        · have := pok_len h; omega
        · have := pok_len h; omega
theorem pnd_m {S S' : Int} (hs : S ≤ S') : ∀ {P : aP}, pnd S P → pnd S' P
  | [], _ => trivial
  | e :: P, h => ⟨h.1, fun q => ⟨(h.2.1 q).1, by have := (h.2.1 q).2; omega⟩, h.2.2.1, h.2.2.2.1, pnd_m hs h.2.2.2.2⟩
theorem pwt_pos {e : Int × Int} {P : aP} : 1 ≤ pwt (e :: P) := by
  simp only [pwt]
  split
  · omega
  · split
    · omega
    · split
      · omega
      · split
        · omega
        · split
          · omega
          · split <;> omega
/-- the reader's state is sound -/
def aIn (A : aT) (vs : List Int) (f : Nat) (P : aP) : Prop := f ≤ 12 ∧ pwf P ∧ pcn P + f = 12 ∧ pok P vs.length ∧ pnd A.1 P ∧ (∀ v ∈ vs, 0 ≤ v ∧ v < A.1) ∧ ∃ m : Int, 0 ≤ m ∧ aB A m ∧ m + vs.length + pow P = A.1
/-- after a step: a fault, and R is none; or a sound state that still comes to R, nearer to its end -/
def aPo (t : aK) (N : Nat) (R : Option aS) (u : Nat) (σ : sg_S) : Prop := ∃ F i A vs d P, Rp t N σ F i A vs d P ∧ (¬ F = 0 → R = none) ∧ (F = 0 → ∃ f : Nat, d = 12 - f ∧ aIn A vs f P ∧ den t P i A vs f = R ∧ 40 * (N - i) + pwt P < u)
