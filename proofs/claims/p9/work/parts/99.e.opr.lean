/-! OPERATORS are read alike. -/
section OPR
variable {c : tkC} {t : aK} {N : Nat} {τ τ' : sg_S} {A A' : aT} {b n q l r : Int} {L R : List Int} {i : Nat}
theorem kid_o (A : aT) (n q : Int) : (aKid A n q).1 = A.1 ∧ ∀ k, ¬ k = n → (aKid A n q).2.1 k = A.2.1 k ∧ (aKid A n q).2.2.1 k = A.2.2.1 k ∧ (aKid A n q).2.2.2.1 k = A.2.2.2.1 k ∧ (aKid A n q).2.2.2.2.1 k = A.2.2.2.2.1 k ∧ (aKid A n q).2.2.2.2.2 k = A.2.2.2.2.2 k := ⟨rfl, fun k hk => by simp only [aKid, aU_n _ _ hk, and_self]⟩
theorem bS_A (h : bS τ A b n L R) (hA : A'.1 = A.1 ∧ ∀ k, ¬ k = n → A'.2.1 k = A.2.1 k ∧ A'.2.2.1 k = A.2.2.1 k ∧ A'.2.2.2.1 k = A.2.2.2.1 k ∧ A'.2.2.2.2.1 k = A.2.2.2.2.1 k ∧ A'.2.2.2.2.2 k = A.2.2.2.2.2 k) : bS τ A' b n L R := by
  obtain ⟨h1, h2, h3, h4, h5, h6⟩ := h
  refine ⟨by rw [hA.1]; exact h1, by rw [hA.1]; exact h2, h3, fun k a0 a1 a2 => ?_, h5, by rw [hA.1]; exact h6⟩
  rw [hA.1] at a1
  obtain ⟨c1, c2⟩ := h4 k a0 a1 a2
  have ek := hA.2 k a2
  refine ⟨cN_x c1 ek (fun _ _ => rfl) rfl (fun _ _ => ⟨rfl, rfl, rfl⟩), ?_⟩
  rw [ek.2.2.2.1, hA.1]
  exact c2
theorem bS_R {R' : List Int} (h : bS τ A b n L R) (hp : R'.Perm R) : bS τ A b n L R' := by
  obtain ⟨h1, h2, h3, h4, h5, h6⟩ := h
  have hm : ∀ x, x ∈ L ++ R' ↔ x ∈ L ++ R := fun x => by simp only [List.mem_append, hp.mem_iff]
  refine ⟨h1, h2, h3, fun k a0 a1 a2 => ⟨(h4 k a0 a1 a2).1, fun x hx => ?_⟩, (List.Perm.nodup_iff (List.Perm.append_left L hp)).mpr h5, fun x hx => h6 x ((hm x).mp hx)⟩
  have := (h4 k a0 a1 a2).2 x hx
  exact ⟨this.1, fun hc => this.2.1 ((hm x).mp hc), this.2.2⟩
def pBtw (c : tkC) (S : pF) (l : Int) (i : Nat) (τ : sg_S) : pO := match pCreate c i τ with
  | none => none
  | some (i2, τ2, k) => match S i2 τ2 with
    | none => none
    | some (i3, τ3, r) => some (i3, pBoth τ3 k l r, k)
theorem btw_ok (hB : tkB c t N) {S : pF} {S' : aF} (hS : sF c t N S S') (gS : gF S') {kd : Int} (hkd : tK c i = kmp kd) (hk : 4 ≤ kd ∧ kd ≤ 10) (hi : i < N) (h : cS τ A b [l]) : (pBtw c S l i τ = none ∧ aBtw t kd S' l i A = none) ∨ ∃ i' τ' A' q, pBtw c S l i τ = some (i', τ', q) ∧ aBtw t kd S' l i A = some (i', A', q) ∧ i' ≤ N ∧ cS τ' A' b [q] ∧ fB τ τ' b := by
  have h2 := h.2.1
  by_cases c200 : A.1 = 200
  · left
    unfold pBtw aBtw aMk
    rw [cr_no h.1 c200, if_pos c200]
    exact ⟨rfl, rfl⟩
  · obtain ⟨τ1, e1, b1, s1, f1⟩ := cr_ok (i := i) h (by omega) hB.1 kd (t.2.2 i) (t.2.1 i)
    have b2 := bS_A b1 (kid_o (aNew A kd (t.2.2 i) (t.2.1 i)) A.1 l)
    unfold pBtw aBtw aMk
    rw [e1, if_neg c200]
    simp only
    rcases hS (i + 1) τ1 (aKid (aNew A kd (t.2.2 i) (t.2.1 i)) A.1 l) (by omega) b2.1 (by simp only [aKid_1, aNew_1]; omega) with ⟨x1, x2⟩ | ⟨i', τ2, A2, r, x1, x2, x3, x4, x5⟩
    · left
      rw [x1, x2]
      exact ⟨rfl, rfl⟩
    · right
      rw [x1, x2]
      have g2 := gS _ _ _ _ _ x2 (by simp only [aKid_1, aNew_1]; omega)
      have hn : A.1 < (aKid (aNew A kd (t.2.2 i) (t.2.1 i)) A.1 l).1 := by simp only [aKid_1, aNew_1]; omega
      have b3 := bS_R (R' := [l, r]) (bS_E b2 x4 x5 g2.1) (List.Perm.swap _ _ _)
      have s3 := sN_f s1 x5 hn
      obtain ⟨b4, f4, w4, v4⟩ := bS_at (A' := A2) b3 ⟨rfl, fun k _ => ⟨rfl, rfl, rfl, rfl, rfl⟩⟩
      obtain ⟨b5, f5, w5, v5⟩ := bS_at (A' := aKid A2 A.1 r) b4 (kid_o A2 A.1 r)
      have s5 := sN_at (sN_at s3 w4 v4) w5 v5
      obtain ⟨b6, s6, f6⟩ := cl_c (m := sx_at (pAttach (pAttach τ2 A.1 l) A.1 r) 11 200 l) ⟨by omega, by omega⟩ b5 s5
      have kn := (g2.1.2 A.1 hn)
      have ekd : (aKid A2 A.1 r).2.1 A.1 = kd := by simp only [aKid]; rw [kn.1]; simp only [aKid, aNew, aU_e]
      have epl : (aKid A2 A.1 r).2.2.1 A.1 = t.2.2 i := by simp only [aKid]; rw [kn.2.1]; simp only [aKid, aNew, aU_e]
      have eks : (aKid A2 A.1 r).2.2.2.2.1 A.1 = [l, r] := by simp only [aKid, aU_e]; rw [kn.2.2.2.1]; simp only [aKid, aNew, aU_e, List.nil_append, List.cons_append]
      have hcn : cN (pBoth τ2 A.1 l r) (aKid A2 A.1 r) A.1 := cN_o b6 s6 (by rw [ekd]; exact hkd) (by rw [epl]; exact ((hB.2.2.1.1 i (by omega)).2).symm) (fun q => by rw [ekd] at q; omega) (by rw [ekd]; omega) (by rw [eks]; rfl)
      refine ⟨i', _, _, _, rfl, rfl, x3, bS_c b6 hcn (fun x hx => by rw [eks] at hx; simpa using hx), ?_⟩
      exact fB_t (fB_t (fB_t (fB_t (fB_m f1 h2.2.1) (fB_m x5 (by simp only [aKid_1, aNew_1]; omega))) f4) f5) f6
theorem sL_cmp (hB : tkB c t N) {S : pF} {S' : aF} (hS : sF c t N S S') (gS : gF S') : sL c t N (fun l i1 τ1 => if tK c i1 = 60 ∨ tK c i1 = 61 then pBtw c S l i1 τ1 else some (i1, τ1, l)) (aCmpR t S') := by
  intro l i τ A b hi h
  unfold aCmpR aqC
  by_cases c1 : tK c i = 60
  · have a1 := (b_sg hB hi (ch := 60) (by decide)).mpr c1
    simp only [c1, true_or, if_true, a1]
    exact btw_ok hB hS gS (by rw [c1]; rfl) (by omega) (b_lt hB hi (by have := sg_t a1; omega)) h
  · have a1 : ¬ aSg t i 60 = true := fun x => c1 ((b_sg hB hi (by decide)).mp x)
    by_cases c2 : tK c i = 61
    · have a2 := (b_sg hB hi (ch := 61) (by decide)).mpr c2
      simp only [c2, or_true, if_true, if_neg a1, a2]
      exact btw_ok hB hS gS (by rw [c2]; rfl) (by omega) (b_lt hB hi (by have := sg_t a2; omega)) h
    · have a2 : ¬ aSg t i 61 = true := fun x => c2 ((b_sg hB hi (by decide)).mp x)
      right
      simp only [if_neg (show ¬ (tK c i = 60 ∨ tK c i = 61) by omega), if_neg a1, if_neg a2]
      exact ⟨i, τ, A, l, rfl, rfl, hi, h, fB_r _ _⟩
theorem sF_then {P : pF} {F : aF} {G : Int → pF} {G' : Int → aF} (hP : sF c t N P F) (hG : sL c t N G G') : sF c t N (fun i τ => match P i τ with
    | none => none
    | some (i1, τ1, l) => G l i1 τ1) (fun i A => match F i A with
    | none => none
    | some (i1, A1, l) => G' l i1 A1) := by
  intro i τ A hi h h0
  rcases hP i τ A hi h h0 with ⟨x1, x2⟩ | ⟨i1, τ1, A1, l, x1, x2, x3, x4, x5⟩
  · left
    simp only [x1, x2, and_self]
  · simp only [x1, x2]
    rcases hG l i1 τ1 A1 A.1 x3 x4 with y | ⟨i2, τ2, A2, q, y1, y2, y3, y4, y5⟩
    · exact Or.inl y
    · exact Or.inr ⟨i2, τ2, A2, q, y1, y2, y3, y4, fB_t x5 y5⟩
theorem sF_cmp (hB : tkB c t N) {S : pF} {S' : aF} (hS : sF c t N S S') (gS : gF S') : sF c t N (pCmp c S) (aCmp t S') := sF_then hS (sL_cmp hB hS gS)
/-- rows of operands -/
theorem sL_row (hB : tkB c t N) {S : pF} {S' : aF} (hS : sF c t N S S') (gS : gF S') {pq : Int → Bool} {aq : Nat → Option Int} (hq : ∀ i, i ≤ N → (pq (tK c i) = false ∧ aq i = none) ∨ (pq (tK c i) = true ∧ ∃ kd, aq i = some kd ∧ tK c i = kmp kd ∧ (4 ≤ kd ∧ kd ≤ 10) ∧ i < N)) : ∀ (m m' : Nat) (l : Int) (i : Nat) (τ : sg_S) (A : aT) (b : Int), i ≤ N → cS τ A b [l] → (201 - A.1).toNat ≤ m → (201 - A.1).toNat ≤ m' → (pRowL c pq S m l i τ = none ∧ aRowL t aq S' m' l i A = none) ∨ ∃ i' τ' A' q, pRowL c pq S m l i τ = some (i', τ', q) ∧ aRowL t aq S' m' l i A = some (i', A', q) ∧ i' ≤ N ∧ cS τ' A' b [q] ∧ fB τ τ' b
  | 0, m', l, i, τ, A, b, hi, h, h1, h2 => by
    have := h.2.1
    omega
  | m + 1, 0, l, i, τ, A, b, hi, h, h1, h2 => by
    have := h.2.1
    omega
  | m + 1, m' + 1, l, i, τ, A, b, hi, h, h1, h2 => by
    have hA := h.2.1
    rcases hq i hi with ⟨p1, p2⟩ | ⟨p1, kd, p2, p3, p4, p5⟩
    · right
      unfold pRowL aRowL
      rw [p1, p2]
      exact ⟨i, τ, A, l, rfl, rfl, hi, h, fB_r _ _⟩
    · have key : pRowL c pq S (m + 1) l i τ = match pBtw c S l i τ with
          | none => none
          | some (i2, τ2, k) => pRowL c pq S m k i2 τ2 := by
        unfold pBtw
        simp only [pRowL, p1, if_true]
        cases pCreate c i τ with
        | none => rfl
        | some x =>
          obtain ⟨i2, τ2, k⟩ := x
          simp only
          cases S i2 τ2 with
          | none => rfl
          | some y => rfl
      rw [key]
      simp only [aRowL, p2]
      rcases btw_ok hB hS gS p3 p4 p5 h with ⟨x1, x2⟩ | ⟨i2, τ2, A2, k, x1, x2, x3, x4, x5⟩
      · left
        rw [x1, x2]
        exact ⟨rfl, rfl⟩
      · rw [x1, x2]
        have g := gF_btw gS x2 (by omega)
        simp only
        rcases sL_row hB hS gS hq m m' k i2 τ2 A2 b x3 x4 (by omega) (by omega) with y | ⟨i3, τ3, A3, q, y1, y2, y3, y4, y5⟩
        · exact Or.inl y
        · exact Or.inr ⟨i3, τ3, A3, q, y1, y2, y3, y4, fB_t x5 y5⟩
theorem sF_row (hB : tkB c t N) {S : pF} {S' : aF} (hS : sF c t N S S') (gS : gF S') {pq : Int → Bool} {aq : Nat → Option Int} (hq : ∀ i, i ≤ N → (pq (tK c i) = false ∧ aq i = none) ∨ (pq (tK c i) = true ∧ ∃ kd, aq i = some kd ∧ tK c i = kmp kd ∧ (4 ≤ kd ∧ kd ≤ 10) ∧ i < N)) : sF c t N (pRow c pq S) (aRow t aq S') :=
  sF_then hS (fun l i τ A b hi h => by
    have := h.2.1
    exact sL_row hB hS gS hq 201 (201 - A.1).toNat l i τ A b hi h (by omega) (by omega))
theorem q_S (hB : tkB c t N) : ∀ i, i ≤ N → (pqS (tK c i) = false ∧ aqS t i = none) ∨ (pqS (tK c i) = true ∧ ∃ kd, aqS t i = some kd ∧ tK c i = kmp kd ∧ (4 ≤ kd ∧ kd ≤ 10) ∧ i < N) := by
  intro i hi
  unfold pqS aqS
  have b1 := b_sg hB hi (ch := 43) (by decide)
  have b2 := b_sg hB hi (ch := 45) (by decide)
  by_cases c1 : tK c i = 43
  · right
    rw [if_pos (b1.mpr c1)]
    exact ⟨by simp [c1], 6, rfl, by rw [c1]; rfl, by omega, b_lt hB hi (by have := sg_t (b1.mpr c1); omega)⟩
  · rw [if_neg (fun x => c1 (b1.mp x))]
    by_cases c2 : tK c i = 45
    · right
      rw [if_pos (b2.mpr c2)]
      exact ⟨by simp [c2], 7, rfl, by rw [c2]; rfl, by omega, b_lt hB hi (by have := sg_t (b2.mpr c2); omega)⟩
    · left
      rw [if_neg (fun x => c2 (b2.mp x))]
      exact ⟨by simp [c1, c2], rfl⟩
theorem q_P (hB : tkB c t N) : ∀ i, i ≤ N → (pqP (tK c i) = false ∧ aqP t i = none) ∨ (pqP (tK c i) = true ∧ ∃ kd, aqP t i = some kd ∧ tK c i = kmp kd ∧ (4 ≤ kd ∧ kd ≤ 10) ∧ i < N) := by
  intro i hi
  unfold pqP aqP
  have b1 := b_sg hB hi (ch := 42) (by decide)
  have b2 := b_sg hB hi (ch := 47) (by decide)
  have b3 := b_sg hB hi (ch := 37) (by decide)
  by_cases c1 : tK c i = 42
  · right
    rw [if_pos (b1.mpr c1)]
    exact ⟨by simp [c1], 8, rfl, by rw [c1]; rfl, by omega, b_lt hB hi (by have := sg_t (b1.mpr c1); omega)⟩
  · rw [if_neg (fun x => c1 (b1.mp x))]
    by_cases c2 : tK c i = 47
    · right
      rw [if_pos (b2.mpr c2)]
      exact ⟨by simp [c2], 9, rfl, by rw [c2]; rfl, by omega, b_lt hB hi (by have := sg_t (b2.mpr c2); omega)⟩
    · rw [if_neg (fun x => c2 (b2.mp x))]
      by_cases c3 : tK c i = 37
      · right
        rw [if_pos (b3.mpr c3)]
        exact ⟨by simp [c3], 10, rfl, by rw [c3]; rfl, by omega, b_lt hB hi (by have := sg_t (b3.mpr c3); omega)⟩
      · left
        rw [if_neg (fun x => c3 (b3.mp x))]
        exact ⟨by simp [c1, c2, c3], rfl⟩
end OPR
