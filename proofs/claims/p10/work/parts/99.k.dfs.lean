/-! TYPES and PARAMS are read alike, but for TYPES more than 12 deep. -/
section DKS
variable {c : tkC} {t : aK} {N : Nat}
theorem tyR_ok (hB : tkB c t N) : ∀ (m : Nat) (i : Nat), i ≤ N → (pTyR c m i = none ∧ aTyR t m i = none) ∨ ∃ i', pTyR c m i = some i' ∧ aTyR t m i = some i' ∧ i' ≤ N
  | 0, i, hi => Or.inr ⟨i, rfl, rfl, hi⟩
  | m + 1, i, hi => by
    have b := b_sg hB hi (ch := 93) (by decide)
    by_cases d : tK c i = 93
    · have a := b.mpr d
      have hlt := b_lt hB hi (by have := sg_t a; omega)
      simp only [pTyR, aTyR, d, if_true, a]
      exact tyR_ok hB m (i + 1) (by omega)
    · left
      simp only [pTyR, aTyR, if_neg d, if_neg (fun x => d (b.mp x)), and_self]
/-- the [ of a TYPE: alike up to 12 -/
theorem tyL_ok (hB : tkB c t N) : ∀ (m m' : Nat) (n : Int) (i : Nat), i ≤ N → N - i ≤ m' → n + m = 12 → (pTyL c m n i = aTyL t m' n i ∧ (aTyL t m' n i).1 ≤ N ∧ n ≤ (aTyL t m' n i).2 ∧ (aTyL t m' n i).2 ≤ 12) ∨ (tK c (pTyL c m n i).1 = 91 ∧ 12 < (aTyL t m' n i).2 ∧ (aTyL t m' n i).1 ≤ N)
  | m, 0, n, i, hi, h1, h2 => by
    have e : i = N := by omega
    subst e
    have hk : ¬ tK c i = 91 := by
      have := (b_s hB (Nat.le_refl i)).2.2.2.2
      have h5 := hB.2.2.2.2.1
      omega
    left
    cases m with
    | zero => simp only [pTyL, aTyL]; exact ⟨trivial, by omega, by omega, by omega⟩
    | succ m => simp only [pTyL, aTyL, if_neg hk]; exact ⟨trivial, by omega, by omega, by omega⟩
  | 0, m' + 1, n, i, hi, h1, h2 => by
    have b := b_sg hB hi (ch := 91) (by decide)
    by_cases d : tK c i = 91
    · right
      simp only [pTyL]
      have a := b.mpr d
      have hlt := b_lt hB hi (by have := sg_t a; omega)
      have grow : ∀ (k : Nat) (x : Int) (j : Nat), j ≤ N → x ≤ (aTyL t k x j).2 ∧ (aTyL t k x j).1 ≤ N := by
        intro k
        induction k with
        | zero => intro x j hj; simp only [aTyL]; omega
        | succ k ih =>
          intro x j hj
          simp only [aTyL]
          by_cases e : aSg t j 91 = true
          · have hlt2 := b_lt hB hj (by have := sg_t e; omega)
            rw [if_pos e]
            have := ih (x + 1) (j + 1) (by omega)
            omega
          · rw [if_neg e]
            exact ⟨Int.le_refl _, hj⟩
      refine ⟨d, ?_⟩
      simp only [aTyL, a, if_true]
      have := grow m' (n + 1) (i + 1) (by omega)
      omega
    · left
      simp only [pTyL, aTyL, if_neg (fun x => d (b.mp x))]
      exact ⟨trivial, by omega, by omega, by omega⟩
  | m + 1, m' + 1, n, i, hi, h1, h2 => by
    have b := b_sg hB hi (ch := 91) (by decide)
    by_cases d : tK c i = 91
    · have a := b.mpr d
      have hlt := b_lt hB hi (by have := sg_t a; omega)
      simp only [pTyL, aTyL, d, if_true, a]
      rcases tyL_ok hB m m' (n + 1) (i + 1) (by omega) (by omega) (by omega) with x | x
      · left
        refine ⟨x.1, x.2.1, by omega, x.2.2.2⟩
      · exact Or.inr x
    · left
      simp only [pTyL, aTyL, if_neg d, if_neg (fun x => d (b.mp x))]
      exact ⟨trivial, by omega, by omega, by omega⟩
theorem ty_ok (hB : tkB c t N) {i : Nat} (hi : i ≤ N) : (pType c i = none ∧ (aTy t N i = none ∨ ∃ i' ty, aTy t N i = some (i', ty) ∧ 12 < ty ∧ i' ≤ N)) ∨ ∃ i' ty, pType c i = some (i', ty) ∧ aTy t N i = some (i', ty) ∧ i' ≤ N ∧ 0 ≤ ty ∧ ty ≤ 12 := by
  have tl := tyL_ok hB 12 (N - i) 0 i hi (Nat.le_refl _) rfl
  unfold pType aTy pTyE
  generalize hx : aTyL t (N - i) 0 i = x at tl
  obtain ⟨j, n⟩ := x
  simp only at tl ⊢
  rcases tl with ⟨e, h1, h2, h3⟩ | ⟨e, h1, h2⟩
  · rw [e]
    simp only
    have bi := b_int hB h1
    by_cases d : tK c j = 258
    · by_cases w : tW c j = 6909556
      · have a := bi.mpr ⟨d, w⟩
        have hlt := b_lt hB h1 (by have := wo_t a; omega)
        simp only [d, w, if_true, a]
        rcases tyR_ok hB n.toNat (j + 1) (by omega) with ⟨y1, y2⟩ | ⟨i', y1, y2, y3⟩
        · left
          rw [y1, y2]
          exact ⟨rfl, Or.inl rfl⟩
        · right
          rw [y1, y2]
          exact ⟨i', n, rfl, rfl, y3, h2, h3⟩
      · left
        simp only [d, if_true, if_neg w, true_and]
        rw [if_neg (fun x => w (bi.mp x).2)]
        exact Or.inl rfl
    · left
      simp only [if_neg d, true_and]
      rw [if_neg (fun x => d (bi.mp x).1)]
      exact Or.inl rfl
  · left
    refine ⟨by rw [if_neg (by omega)], ?_⟩
    by_cases a : aWo t j 14980 = true
    · have hlt := b_lt hB h2 (by have := wo_t a; omega)
      rw [if_pos a]
      rcases tyR_ok hB n.toNat (j + 1) (by omega) with ⟨y1, y2⟩ | ⟨i', y1, y2, y3⟩
      · left; rw [y2]
      · right
        rw [y2]
        exact ⟨i', n, rfl, h1, y3⟩
    · left; rw [if_neg a]
end DKS
