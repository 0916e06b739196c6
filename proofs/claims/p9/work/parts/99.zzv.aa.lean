/-! VALUES and the EVALUATION of a PROGRAM as it is written, with its work and its span. -/
/-- a value, told by paths: at the end of a path a number, before it the length of a sequence -/
abbrev vaF : Type := List Nat → Int
def sbF (v : vaF) (i : Nat) : vaF := fun p => v (i :: p)
def nmF (x : Int) : vaF := fun _ => x
def itF (v : vaF) : List vaF := (List.range (v []).toNat).map (sbF v)
def mkF (l : List vaF) : vaF := fun p => match p with
  | [] => (l.length : Int)
  | i :: q => (l.getD i (nmF 0)) q
theorem itF_l (v : vaF) : (itF v).length = (v []).toNat := by simp [itF]
theorem itF_g {v : vaF} {i : Nat} {w : vaF} (h : (itF v)[i]? = some w) : i < (v []).toNat ∧ w = sbF v i := by
  have hl := gE_l h
  rw [itF_l] at hl
  refine ⟨hl, ?_⟩
  unfold itF at h
  rw [List.getElem?_map, List.getElem?_range hl] at h
  exact (Option.some.inj h).symm
theorem itF_i {v : vaF} {i : Nat} (h : i < (v []).toNat) : (itF v)[i]? = some (sbF v i) := by
  unfold itF
  rw [List.getElem?_map, List.getElem?_range h]; rfl
theorem itF_mk (l : List vaF) : itF (mkF l) = l := by
  apply List.ext_getElem?
  intro i
  rcases Nat.lt_or_ge i l.length with h | h
  · rw [itF_i (by show i < ((l.length : Int)).toNat; omega), List.getElem?_eq_getElem h]
    congr 1
    funext p
    show (l.getD i (nmF 0)) p = _
    rw [List.getD_eq_getElem?_getD, List.getElem?_eq_getElem h]; rfl
  · rw [List.getElem?_eq_none (by rw [itF_l]; show ((l.length : Int)).toNat ≤ i; omega), List.getElem?_eq_none h]
theorem mkF_0 (l : List vaF) : mkF l [] = l.length := rfl
/-- what numbers together come to -/
def sumF : List Int → Int
  | [] => 0
  | x :: r => x + sumF r
theorem sumF_a : ∀ (l m : List Int), sumF (l ++ m) = sumF l + sumF m
  | [], m => by simp [sumF]
  | x :: r, m => by simp only [List.cons_append, sumF]; rw [sumF_a r m]; omega
/-- COUNT of a value of depth d -/
def cnvF : Nat → vaF → Int
  | 0, _ => 0
  | d + 1, v => ((itF v).length : Int) + sumF ((itF v).map (cnvF d))
def cnL (d : Nat) (l : List vaF) : Int := (l.length : Int) + sumF (l.map (cnvF d))
theorem cnF_mk (d : Nat) (l : List vaF) : cnvF (d + 1) (mkF l) = cnL d l := by simp only [cnvF, itF_mk, cnL]
theorem cnF_0 : ∀ (d : Nat) (v : vaF), 0 ≤ cnvF d v
  | 0, _ => Int.le_refl _
  | d + 1, v => by
    have : ∀ l : List vaF, 0 ≤ sumF (l.map (cnvF d)) := fun l => by
      induction l with
      | nil => exact Int.le_refl _
      | cons x r ih => simp only [List.map_cons, sumF]; have := cnF_0 d x; omega
    simp only [cnvF]
    have := this (itF v)
    omega
theorem sum_0 (d : Nat) (l : List vaF) : 0 ≤ sumF (l.map (cnvF d)) := by
  induction l with
  | nil => exact Int.le_refl _
  | cons x r ih => simp only [List.map_cons, sumF]; have := cnF_0 d x; omega
theorem cnL_a (d : Nat) (l m : List vaF) : cnL d (l ++ m) = cnL d l + cnL d m := by
  unfold cnL
  rw [List.map_append, sumF_a, List.length_append]; omega
theorem cnL_l (d : Nat) (l : List vaF) : (l.length : Int) ≤ cnL d l := by
  unfold cnL
  have := sum_0 d l
  omega
theorem cnL_1 (l : List vaF) : cnL 0 l = l.length := by
  unfold cnL
  have : sumF (l.map (cnvF 0)) = 0 := by
    induction l with
    | nil => rfl
    | cons x r ih => simp only [List.map_cons, sumF]; rw [ih]; rfl
  rw [this]; omega
/-- the result of a step of work: a finding and the work, or values, the work, the span, what is bound -/
abbrev eV : Type := Int → vaF
abbrev eR : Type := (Int × Int) ⊕ (vaF × Int × Int × eV)
abbrev eRs : Type := (Int × Int) ⊕ (List vaF × Int × Int × eV)
def eUp (ρ : eV) (b : Int) (v : vaF) : eV := fun x => if x = b then v else ρ x
def eUs (ρ : eV) (b : Int) : Nat → List vaF → eV
  | _, [] => ρ
  | j, v :: r => eUs (eUp ρ (b + j) v) b (j + 1) r
/-- parts one after another -/
def eS (go : Int → eV → Int → eR) : List Int → eV → Int → eRs
  | [], ρ, w => .inr ([], w, 0, ρ)
  | x :: r, ρ, w => match go x ρ w with
    | .inl e => .inl e
    | .inr (v, w1, s1, ρ1) => match eS go r ρ1 w1 with
      | .inl e => .inl e
      | .inr (vs, w2, s2, ρ2) => .inr (v :: vs, w2, s1 + s2, ρ2)
/-- one place of a { } -/
def evT (go : Int → eV → Int → eR) (gd : List Int) (bd : Int) (ρ : eV) (w : Int) : eRs := match gd with
  | [] => (match go bd ρ w with
    | .inl e => .inl e
    | .inr (v, w1, s1, ρ1) => .inr ([v], w1, s1, ρ1))
  | g :: _ => (match go g ρ w with
    | .inl e => .inl e
    | .inr (v, w1, s1, ρ1) => if v [] = 0 then .inr ([], w1, s1, ρ1) else (match go bd ρ1 w1 with
      | .inl e => .inl e
      | .inr (v2, w2, s2, ρ2) => .inr ([v2], w2, s1 + s2, ρ2)))
/-- all places of a { }: the greatest span of one -/
def eP (one : Nat → eV → Int → eRs) : Nat → Nat → eV → Int → Int → List vaF → eRs
  | 0, _, ρ, w, bs, acc => .inr (acc, w, bs, ρ)
  | k + 1, i, ρ, w, bs, acc => match one i ρ w with
    | .inl e => .inl e
    | .inr (vs, w1, s1, ρ1) => eP one k (i + 1) ρ1 w1 (if bs < s1 then s1 else bs) (acc ++ vs)
/-- numbers before -/
def scnF : Int → List Int → List Int
  | _, [] => []
  | m, x :: r => m :: scnF (sg_n (m + x)) r
def foF (k : Int) : Int → List Int → Int
  | m, [] => m
  | m, x :: r => foF k (if k = 18 then sg_n (m + x) else if k = 19 then (if m < x then x else m) else if x < m then x else m) r
def pkF : List vaF → List Int → List vaF
  | v :: r, x :: s => if x = 0 then pkF r s else v :: pkF r s
  | _, _ => []
/-- a row of wishes, inverted from place i on: who wishes each of n places, or nothing -/
def ivF (n : Nat) : Nat → List Int → (Int → Int) → Option (Int → Int)
  | _, [], g => some g
  | i, x :: r, g => if 0 ≤ x ∧ x < n ∧ g x = -1 then ivF n (i + 1) r (fun y => if y = x then (i : Int) else g y) else none
/-- parts with given lengths -/
def ptF : List vaF → List Int → List vaF
  | _, [] => []
  | l, x :: r => mkF (l.take x.toNat) :: ptF (l.drop x.toNat) r
def nuF (v : vaF) : List Int := (itF v).map (fun w => w [])
def arF (k a b : Int) : Int := v_operated k a b
/-- an operation on values: a finding, or a value with what is to be paid for it -/
def eO (k ty x : Int) (vs : List vaF) : Int ⊕ (vaF × Int) :=
  let a := vs.getD 0 (nmF 0)
  let b := vs.getD 1 (nmF 0)
  if k = 0 then .inr (nmF x, 0)
  else if k < 11 then (if (k = 9 ∨ k = 10) ∧ b [] = 0 then .inl 1 else .inr (nmF (arF k (a []) (b [])), 0))
  else if k = 11 then .inr (nmF (itF a).length, 0)
  else if k = 12 then (if 0 ≤ b [] ∧ b [] < (itF a).length then .inr ((itF a).getD (b []).toNat (nmF 0), 0) else .inl 2)
  else if k = 14 then .inr (mkF vs, cnL (ty - 1).toNat vs)
  else if k = 16 then (if 0 ≤ a [] ∧ a [] ≤ 200 then .inr (mkF ((List.range (a []).toNat).map (fun i : Nat => nmF (i : Int))), cnL 0 ((List.range (a []).toNat).map (fun i : Nat => nmF (i : Int)))) else .inl 5)
  else if k = 17 then (if 0 ≤ b [] ∧ b [] ≤ 200 then .inr (mkF (List.replicate (b []).toNat a), cnL (ty - 1).toNat (List.replicate (b []).toNat a)) else .inl 5)
  else if k = 18 then .inr (nmF (foF 18 0 (nuF a)), (itF a).length)
  else if k = 19 ∨ k = 20 then (match nuF a with
    | [] => .inl 4
    | y :: r => .inr (nmF (foF k y r), (itF a).length))
  else if k = 21 then .inr (mkF ((scnF 0 (nuF a)).map nmF), cnL 0 ((scnF 0 (nuF a)).map nmF))
  else if k = 22 then .inr (mkF (itF a).reverse, cnL (ty - 1).toNat (itF a).reverse)
  else if k = 23 then (if (itF a).length + (itF b).length ≤ 200 then .inr (mkF (itF a ++ itF b), cnL (ty - 1).toNat (itF a ++ itF b)) else .inl 5)
  else if k = 24 then (if sumF ((itF a).map (fun v => ((itF v).length : Int))) ≤ 200 then .inr (mkF ((itF a).map itF).flatten, cnL (ty - 1).toNat ((itF a).map itF).flatten) else .inl 5)
  else if k = 25 then (if (itF a).length = (itF b).length then .inr (mkF (pkF (itF a) (nuF b)), cnL (ty - 1).toNat (pkF (itF a) (nuF b))) else .inl 3)
  else if k = 26 then (if (itF a).length = (itF b).length then (match ivF (itF b).length 0 (nuF b) (fun _ => -1) with
    | none => .inl 6
    | some g => .inr (mkF ((List.range (itF a).length).map (fun i : Nat => (itF a).getD (g i).toNat (nmF 0))), cnL (ty - 1).toNat ((List.range (itF a).length).map (fun i : Nat => (itF a).getD (g i).toNat (nmF 0))))) else .inl 3)
  else (if (nuF b).any (fun x => decide (x < 0)) = true then .inl 5 else if sumF (nuF b) = (itF a).length then .inr (mkF (ptF (itF a) (nuF b)), cnL (ty - 1).toNat (ptF (itF a) (nuF b))) else .inl 3)
/-- what is paid at a node's end -/
def ePay (r : Int ⊕ (vaF × Int)) (w s : Int) (ρ : eV) : eR := match r with
  | .inl e => .inl (e, w)
  | .inr (v, c) => if w + c ≤ 3000 then .inr (v, w + c, s, ρ) else .inl (7, w)
section EVL
variable (A : aT) (T B : Int → Int) (call : Int → eV → Int → eR)
/-- a node is worked out -/
def evN : Nat → Int → eV → Int → eR
  | 0, _, _, w => .inl (7, w)
  | f + 1, n, ρ, w =>
    if w + 1 ≤ 3000 then
      (if A.2.1 n = 1 then .inr (ρ (B n), w + 1, 1, ρ)
      else if A.2.1 n = 2 then (match evN f ((A.2.2.2.2.1 n).getD 0 0) ρ (w + 1) with
        | .inl e => .inl e
        | .inr (v, w1, s1, ρ1) => match evN f ((A.2.2.2.2.1 n).getD 1 0) (eUp ρ1 n v) w1 with
          | .inl e => .inl e
          | .inr (v2, w2, s2, ρ2) => .inr (v2, w2, 1 + s1 + s2, ρ2))
      else if A.2.1 n = 3 then (match evN f ((A.2.2.2.2.1 n).getD 0 0) ρ (w + 1) with
        | .inl e => .inl e
        | .inr (v, w1, s1, ρ1) => match evN f ((A.2.2.2.2.1 n).getD (if v [] = 0 then 2 else 1) 0) ρ1 w1 with
          | .inl e => .inl e
          | .inr (v2, w2, s2, ρ2) => .inr (v2, w2, 1 + s1 + s2, ρ2))
      else if A.2.1 n = 13 then (match eS (evN f) (A.2.2.2.2.1 n) ρ (w + 1) with
        | .inl e => .inl e
        | .inr (vs, w1, s1, ρ1) => match call (B n) (eUs ρ1 (1100 + 6 * B n) 0 vs) w1 with
          | .inl e => .inl e
          | .inr (v2, w2, s2, ρ2) => .inr (v2, w2, 1 + s1 + s2, ρ2))
      else if A.2.1 n = 15 then (match eS (evN f) (kGs A n) ρ (w + 1) with
        | .inl e => .inl e
        | .inr (vs, w1, s1, ρ1) =>
          if vs.any (fun v => decide ((itF v).length ≠ (itF (vs.getD 0 (nmF 0))).length)) = true then .inl (3, w1)
          else match eP (fun i ρ w => evT (evN f) ((A.2.2.2.2.1 n).drop (1 + (A.2.2.2.2.2 n).length)) ((A.2.2.2.2.1 n).getD 0 0) (eUs ρ (210 + 4 * n) 0 (vs.map (fun v => (itF v).getD i (nmF 0)))) w) (itF (vs.getD 0 (nmF 0))).length 0 ρ1 w1 0 [] with
            | .inl e => .inl e
            | .inr (acc, w2, bs, ρ2) => ePay (.inr (mkF acc, cnL (T n - 1).toNat acc)) w2 (1 + s1 + bs) ρ2)
      else match eS (evN f) (A.2.2.2.2.1 n) ρ (w + 1) with
        | .inl e => .inl e
        | .inr (vs, w1, s1, ρ1) => ePay (eO (A.2.1 n) (T n) (sg_n (A.2.2.2.1 n)) vs) w1 (1 + s1) ρ1)
    else .inl (7, w)
end EVL
/-- DEFS below k -/
def eC (A : aT) (D : List aDf) (T B : Int → Int) : Nat → Int → eV → Int → eR
  | 0, _, _, w => .inl (7, w)
  | k + 1, q, ρ, w => if q = (k : Int) then evN A T B (eC A D T B k) 201 ((D.getD k (0, 0, [], 0)).2.2.2) ρ w else eC A D T B k q ρ w
theorem eC_e (A : aT) (D : List aDf) (T B : Int → Int) : ∀ (k q : Nat), q < k → ∀ ρ w, eC A D T B k (q : Int) ρ w = evN A T B (eC A D T B q) 201 ((D.getD q (0, 0, [], 0)).2.2.2) ρ w
  | 0, q, h, ρ, w => by omega
  | k + 1, q, h, ρ, w => by
    simp only [eC]
    by_cases e : q = k
    · subst e; rw [if_pos rfl]
    · rw [if_neg (by omega), eC_e A D T B k q (by omega)]
