/-! THE PILE of a nested run of the reference: frames with values of their types. -/
/-- a value of type k whose count was told -/
def vU (σ : sg_S) (k : Nat) (v : Int) : Prop := vT σ k v ∧ (1 ≤ k → sg_gl σ 124 v ≤ 3000)
theorem vU_up {σ σ' : sg_S} (h : nEx σ σ') {k : Nat} {v : Int} (a : vU σ k v) : vU σ' k v := by
  refine ⟨vT_up h a.1, fun z => ?_⟩
  cases k with
  | zero => omega
  | succ k =>
    rw [(h.2.1 v a.1.1.1 a.1.1.2).2.2]
    exact a.2 z
theorem sC_0 {σ : sg_S} {p : Int} : ∀ {i : Nat}, (∀ l : Nat, l < i → 0 ≤ sg_gl σ 124 (sg_g σ 125 (p + l))) → 0 ≤ sC σ p i ∧ ∀ l : Nat, l < i → sg_gl σ 124 (sg_g σ 125 (p + l)) ≤ sC σ p i
  | 0, _ => ⟨Int.le_refl _, fun l h => by omega⟩
  | i + 1, h => by
    obtain ⟨a, b⟩ := sC_0 (i := i) (fun l x => h l (by omega))
    have c := h i (by omega)
    simp only [sC]
    refine ⟨by omega, fun l x => ?_⟩
    by_cases e : l = i
    · subst e; omega
    · have := b l (by omega)
      omega
theorem vT_c0 {σ : sg_S} {k : Nat} {v : Int} (h : vT σ (k + 1) v) : 0 ≤ sg_gl σ 124 v := by
  have := h.2.2.1
  have := h.2.1
  omega
/-- an item counts no more than its sequence -/
theorem vU_it {σ : sg_S} {k : Nat} {v i : Int} (h : vU σ (k + 1) v) (i0 : 0 ≤ i) (i1 : i < sg_g σ 123 v) : vU σ k (v_itemAt σ v i) := by
  refine ⟨h.1.2.2.2 i i0 i1, fun z => ?_⟩
  obtain ⟨k, rfl⟩ : ∃ k', k = k' + 1 := ⟨k - 1, by omega⟩
  obtain ⟨a1, a2, a3, a4⟩ := h.1
  have s := sC_0 (σ := σ) (p := sg_g σ 122 v) (i := (sg_g σ 123 v).toNat) (fun l x => vT_c0 (a4 l (by omega) (by omega)))
  have s1 := s.2 i.toNat (by omega)
  have s2 := h.2 (by omega)
  have s3 := a3.2.2
  simp only [sK] at s3
  rw [show ((i.toNat : Nat) : Int) = i by omega] at s1
  unfold v_itemAt
  omega
section NST
variable (A : aT) (D : List aDf) (T B : Int → Int) (r : Int)
/-- the type of what binder b binds -/
def bTy (b : Int) : Int := if b < 210 then T ((A.2.2.2.2.1 b).getD 0 0) else if b < 1100 then T ((A.2.2.2.2.1 ((b - 210) / 4)).getD (1 + ((b - 210) % 4).toNat) 0) - 1 else ((D.getD ((b - 1100) / 6).toNat (0, 0, [], 0)).2.2.1.map (·.2.2)).getD ((b - 1100) % 6).toNat 0
def scO (σ : sg_S) (sc : List (Int × Int)) : Prop := ∀ p ∈ sc, (0 ≤ p.1 ∧ p.1 < 1200) ∧ p.2 = bTy A D T p.1 ∧ vU σ p.2.toNat (sg_g σ 134 p.1)
/-- node n, under binders that are bound -/
def fO (σ : sg_S) (n : Int) : Prop := ∃ (j f : Nat) (sc : List (Int × Int)), tyN A (kDl (D.take j) []) T B f sc n ∧ scO A D T σ sc
/-- all GENS are as long as the first, p places of it are done -/
def eM (σ : sg_S) (b p : Int) (g : Nat) : Prop := 1 ≤ g ∧ (0 ≤ p ∧ p ≤ sg_g σ 123 (sg_g σ 133 b)) ∧ ∀ j : Nat, j < g → (0 ≤ sg_g σ 133 (b + j) ∧ sg_g σ 133 (b + j) < sg_g σ 88 56) ∧ sg_g σ 123 (sg_g σ 133 (b + j)) = sg_g σ 123 (sg_g σ 133 b)
/-- node n at stage s has values of types ty from b on -/
def fS (σ : sg_S) (n s p b : Int) (ty : List Int) : Prop :=
  if A.2.1 n = 2 then ∃ a c, A.2.2.2.2.1 n = [a, c] ∧ ((s = 0 ∧ ty = []) ∨ (s = 1 ∧ ty = [T a]) ∨ (s = 2 ∧ ty = [T c]))
  else if A.2.1 n = 3 then ∃ a c d, A.2.2.2.2.1 n = [a, c, d] ∧ ((s = 0 ∧ ty = []) ∨ (s = 1 ∧ ty = [T a]) ∨ (s = 2 ∧ ty = [T n]))
  else if A.2.1 n = 15 then ∃ bd tl, A.2.2.2.2.1 n = bd :: tl ∧ ((∃ i : Nat, i ≤ (A.2.2.2.2.2 n).length ∧ s = i ∧ p = 0 ∧ ty = (tl.take i).map T) ∨ (eM σ b p (A.2.2.2.2.2 n).length ∧ ∃ i : Nat, (i : Int) ≤ p ∧ ((s = (A.2.2.2.2.2 n).length + 1 ∧ ty = (tl.take (A.2.2.2.2.2 n).length).map T ++ List.replicate i (T bd)) ∨ ((p < sg_g σ 123 (sg_g σ 133 b) ∧ ∀ i : Nat, i < (A.2.2.2.2.2 n).length → vU σ (bTy A D T (210 + 4 * n + i)).toNat (sg_g σ 134 (210 + 4 * n + i))) ∧ s = (A.2.2.2.2.2 n).length + 2 ∧ ty = (tl.take (A.2.2.2.2.2 n).length).map T ++ List.replicate i (T bd) ++ [0]) ∨ (p < sg_g σ 123 (sg_g σ 133 b) ∧ s = (A.2.2.2.2.2 n).length + 3 ∧ ty = (tl.take (A.2.2.2.2.2 n).length).map T ++ List.replicate (i + 1) (T bd)))))
  else (∃ i : Nat, i ≤ (A.2.2.2.2.1 n).length ∧ s = i ∧ ty = ((A.2.2.2.2.1 n).take i).map T) ∨ (A.2.1 n = 13 ∧ s = (A.2.2.2.2.1 n).length + 1 ∧ ty = [T n])
/-- values of types ty stand from b on -/
def vS (σ : sg_S) (b : Int) (ty : List Int) : Prop := ∀ (i : Nat) (x : Int), ty[i]? = some x → vU σ x.toNat (sg_g σ 133 (b + i))
/-- frames below: m of them, the value of type ty above them comes to place tp -/
def nStk (σ : sg_S) : Nat → Int → Int → Prop
  | 0, tp, ty => tp = 0 ∧ ty = T r
  | m + 1, tp, ty => ∃ tys : List Int, 0 ≤ sg_g σ 128 m ∧ tp = sg_g σ 128 m + tys.length ∧ vS σ (sg_g σ 128 m) tys ∧ fO A D T B σ (sg_g σ 126 m) ∧ fS A D T σ (sg_g σ 126 m) (sg_g σ 127 m) (sg_g σ 130 m) (sg_g σ 128 m) (tys ++ [ty]) ∧ (A.2.1 (sg_g σ 126 m) = 15 → ¬ sg_g σ 127 m = (A.2.2.2.2.2 (sg_g σ 126 m)).length + 1) ∧ nStk σ m (sg_g σ 128 m) (T (sg_g σ 126 m))
def nTop (σ : sg_S) (m : Nat) (ty : List Int) : Prop := sg_g σ 88 62 = m + 1 ∧ 0 ≤ sg_g σ 128 m ∧ sg_g σ 88 70 = sg_g σ 128 m + ty.length ∧ vS σ (sg_g σ 128 m) ty ∧ fO A D T B σ (sg_g σ 126 m) ∧ fS A D T σ (sg_g σ 126 m) (sg_g σ 127 m) (sg_g σ 130 m) (sg_g σ 128 m) ty ∧ nStk A D T B r σ m (sg_g σ 128 m) (T (sg_g σ 126 m))
def nC (σ : sg_S) : Prop := (0 ≤ sg_g σ 88 56 ∧ 0 ≤ sg_g σ 88 60 ∧ 0 ≤ sg_g σ 88 62 ∧ 0 ≤ sg_g σ 88 70) ∧ sg_g σ 88 56 + sg_g σ 88 62 ≤ sg_g σ 88 54 ∧ sg_g σ 88 60 ≤ sg_g σ 88 54 ∧ sg_g σ 88 70 + sg_g σ 88 62 ≤ sg_g σ 88 54 ∧ sg_g σ 88 54 ≤ 3000
/-- a nested run that goes on, or has come to its value -/
def nIv (σ : sg_S) : Prop := nC σ ∧ ((sg_g σ 88 62 = 0 ∧ vU σ (T r).toNat (sg_g σ 133 0)) ∨ ∃ m ty, nTop A D T B r σ m ty)
end NST
section NUP
variable {A : aT} {D : List aDf} {T B : Int → Int} {r : Int}
/-- what is bound stays of its type -/
def bOk (A : aT) (D : List aDf) (T : Int → Int) (σ σ' : sg_S) : Prop := ∀ b, sg_g σ' 134 b = sg_g σ 134 b ∨ vU σ' (bTy A D T b).toNat (sg_g σ' 134 b)
theorem scO_up {σ σ' : sg_S} {sc : List (Int × Int)} (h : nEx σ σ') (hb : bOk A D T σ σ') (a : scO A D T σ sc) : scO A D T σ' sc := fun p hp => by
  obtain ⟨a1, a2, a3⟩ := a p hp
  refine ⟨a1, a2, ?_⟩
  rcases hb p.1 with e | e
  · rw [e]; exact vU_up h a3
  · rw [a2]; exact e
theorem fO_up {σ σ' : sg_S} {n : Int} (h : nEx σ σ') (hb : bOk A D T σ σ') (a : fO A D T B σ n) : fO A D T B σ' n := by
  obtain ⟨j, f, sc, a1, a2⟩ := a
  exact ⟨j, f, sc, a1, scO_up h hb a2⟩
theorem vS_up {σ σ' : sg_S} {b : Int} {ty : List Int} (h : nEx σ σ') (hv : ∀ x, b ≤ x → x < b + ty.length → sg_g σ' 133 x = sg_g σ 133 x) (a : vS σ b ty) : vS σ' b ty := fun i x hx => by
  have hi : i < ty.length := by
    rcases Nat.lt_or_ge i ty.length with q | q
    · exact q
    · rw [List.getElem?_eq_none q] at hx; cases hx
  rw [hv _ (by omega) (by omega)]
  exact vU_up h (a i x hx)
theorem vS_x {σ : sg_S} {b v x : Int} {ty : List Int} (h : vS σ b ty) (hv : sg_g σ 133 (b + ty.length) = v) (hx : vU σ x.toNat v) : vS σ b (ty ++ [x]) := fun i y hy => by
  rcases Nat.lt_or_ge i ty.length with q | q
  · rw [List.getElem?_append_left q] at hy; exact h i y hy
  · rw [List.getElem?_append_right q] at hy
    have : i - ty.length = 0 := by
      rcases Nat.eq_zero_or_pos (i - ty.length) with z | z
      · exact z
      · rw [List.getElem?_eq_none (by simp; omega)] at hy; cases hy
    rw [this] at hy
    simp only [List.getElem?_cons_zero, Option.some.injEq] at hy
    rw [show i = ty.length by omega, hv, ← hy]; exact hx
theorem vS_l {σ : sg_S} {b : Int} {ty ty' : List Int} (h : vS σ b (ty ++ ty')) : vS σ b ty := fun i x hx => by
  refine h i x ?_
  have hi : i < ty.length := by
    rcases Nat.lt_or_ge i ty.length with q | q
    · exact q
    · rw [List.getElem?_eq_none q] at hx; cases hx
  rw [List.getElem?_append_left hi]; exact hx
end NUP
