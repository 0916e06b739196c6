/-! Ranges and levels: signs between operands, [ ]. -/
section JQS
variable {c : tkC} {t : aK} {N h : Nat}
theorem j_bin {S : pF} {S' : aF} (hS : cBq c t N h S S') {i i1 i3 j3 : Nat} {τ τ1 τ3 : sg_S} {A A2 : aT} {b l k r r' kd p w : Int} (hi : i + 1 ≤ N) (h2 : sg_g τ 2 16 = A.1) (h0 : 0 ≤ b ∧ b ≤ A.1 ∧ A.1 ≤ 200) (hl : jQ τ A b l h) (hkd : ¬ kd = 3 ∧ ¬ kd = 15) (hc : pCreate c i τ = some (i1, τ1, k)) (hs : S i1 τ1 = some (i3, τ3, r)) (hf : S' (i + 1) (aKid (aNew A kd p w) A.1 l) = some (j3, A2, r')) (hT : cTc (aKid A2 A.1 r') b A.1) : (k = A.1 ∧ j3 = i3 ∧ r' = r ∧ i3 ≤ N ∧ sg_g (pBoth τ3 k l r) 2 16 = A2.1 ∧ A2.1 ≤ 200 ∧ A.1 < A2.1) ∧ jQ (pBoth τ3 k l r) (aKid A2 A.1 r') b A.1 h := by
  obtain ⟨k1, k2, k3, k4, k5, k6, k7⟩ := jO_new (kd := kd) (p := p) (w := w) (h := h) hl.1 h0.2.1 h2 (by omega) hc
  subst k1
  subst k2
  have lA := hl.2.1
  have eqn : ∀ x, x < A.1 → (aNew A kd p w).2.1 x = A.2.1 x ∧ (aNew A kd p w).2.2.2.2.1 x = A.2.2.2.2.1 x ∧ (aNew A kd p w).2.2.2.2.2 x = A.2.2.2.2.2 x := fun x hx => by
    have xn : ¬ x = A.1 := by omega
    simp only [aNew, aU_n _ _ xn, and_self]
  have jl := hl.1 l lA.1 lA.2
  have o1 := jO_k k7 (q := l) ⟨⟨lA.1, by simp only [aNew_1]; omega, by omega⟩, hNq_x hl.2.2.2 jl (fun x _ q => eqn x (by have := jl.1.2; omega))⟩
  obtain ⟨⟨x1, x2, x3, x4, x5, x6⟩, f1, g1, -, q1⟩ := j_call hS hi (by simp only [aKid_1, aNew_1]; exact k3) (by simp only [aKid_1, aNew_1]; omega) hs hf
  subst x1
  subst x2
  simp only [aKid_1, aNew_1] at x5
  obtain ⟨o2, o3⟩ := jO_E o1 f1 g1 q1
  have o4 := jO_k o2 o3
  have l11 : sg_g τ3 11 l = b := by
    rw [(f1.1 11 l (by decide) (by simp only [aKid_1, aNew_1]; omega)).1, (k6 l (by omega)).1]; exact hl.2.2.1
  have a11 : ∀ j, sg_g (pAttach (pAttach τ3 A.1 l) A.1 r') 11 j = sg_g τ3 11 j ∧ sg_g (pAttach (pAttach τ3 A.1 l) A.1 r') 12 j = sg_g τ3 12 j ∧ sg_g (pAttach (pAttach τ3 A.1 l) A.1 r') 2 16 = sg_g τ3 2 16 := fun j => by
    obtain ⟨y1, y2, y3⟩ := p_at11 (pAttach τ3 A.1 l) A.1 r' j
    obtain ⟨z1, z2, z3⟩ := p_at11 τ3 A.1 l j
    exact ⟨y1.trans z1, y2.trans z2, y3.trans z3⟩
  have eB : pBoth τ3 A.1 l r' = pClose (pAttach (pAttach τ3 A.1 l) A.1 r') A.1 b := by
    unfold pBoth
    rw [xa_in (a := 11) ⟨by omega, by omega⟩, (a11 l).1, l11]
  have kk : (aKid A2 A.1 r').2.1 A.1 = kd := by
    simp only [aKid]
    rw [(g1.2 A.1 (by simp only [aKid_1, aNew_1]; omega)).1]
    simp only [aKid, aNew, aU_e]
  have o5 := jO_r o4 (fun j => ⟨(a11 j).1, (a11 j).2.1⟩)
  rw [eB]
  have s2 : sg_g (pAttach (pAttach τ3 A.1 l) A.1 r') 2 16 = A2.1 := by rw [(a11 0).2.2]; exact x4
  refine ⟨⟨rfl, rfl, rfl, x3, ?_, x6, by omega⟩, jQ_c o5 hT (by simp only [aKid_1]; exact s2) (by simp only [aKid_1]; omega) (by rw [kk, if_neg (by omega)]; exact Nat.le_refl _)⟩
  unfold pClose
  rw [sxp_c _ _ _ _ _ _ _ (by decide), sxp_c _ _ _ _ _ _ _ (by decide)]
  exact s2
theorem j_btw {S : pF} {S' : aF} (hS : cBq c t N h S S') {i i1 i3 j3 : Nat} {τ τ1 τ3 : sg_S} {A A3 : aT} {b l k r n kd : Int} (hi : i + 1 ≤ N) (h2 : sg_g τ 2 16 = A.1) (h0 : 0 ≤ b ∧ b ≤ A.1 ∧ A.1 ≤ 200) (hl : jQ τ A b l h) (hT : cTc A b l) (hkd : 4 ≤ kd ∧ kd ≤ 10) (hc : pCreate c i τ = some (i1, τ1, k)) (hs : S i1 τ1 = some (i3, τ3, r)) (hf : aBtw t kd S' l i A = some (j3, A3, n)) : (n = k ∧ j3 = i3 ∧ i3 ≤ N ∧ sg_g (pBoth τ3 k l r) 2 16 = A3.1 ∧ A3.1 ≤ 200 ∧ A.1 < A3.1) ∧ jQ (pBoth τ3 k l r) A3 b k h ∧ cTc A3 b k := by
  have hT3 := t_btw hS.2.1 hS.2.2.1 hkd hf (by omega) h0.2.1 hT
  unfold aBtw at hf
  split at hf
  · cases hf
  rename_i A1 n' hm
  cases mk_e hm
  split at hf
  · cases hf
  rename_i i2 A2 r' he
  cases hf
  obtain ⟨⟨x1, x2, x3, x4, x5, x6, x7⟩, q⟩ := j_bin hS hi h2 h0 hl (by omega) hc hs he hT3
  subst x1
  exact ⟨⟨rfl, x2, x4, x5, x6, x7⟩, q, hT3⟩
theorem j_idx {S : pF} {S' : aF} (hS : cBq c t N h S S') {i i1 i3 j3 : Nat} {τ τ1 τ3 : sg_S} {A A3 : aT} {b l k r n : Int} (hi : i + 1 ≤ N) (h2 : sg_g τ 2 16 = A.1) (h0 : 0 ≤ b ∧ b ≤ A.1 ∧ A.1 ≤ 200) (hl : jQ τ A b l h) (hT : cTc A b l) (hc : pCreate c i τ = some (i1, τ1, k)) (hs : S i1 τ1 = some (i3, τ3, r)) (hf : aIdx t S' l i A = some (j3, A3, n)) : (n = k ∧ j3 = i3 + 1 ∧ i3 ≤ N ∧ sg_g (pBoth τ3 k l r) 2 16 = A3.1 ∧ A3.1 ≤ 200 ∧ A.1 < A3.1) ∧ jQ (pBoth τ3 k l r) A3 b k h ∧ cTc A3 b k := by
  have hT3 := t_idx hS.2.1 hS.2.2.1 hf (by omega) h0.2.1 hT
  unfold aIdx at hf
  split at hf
  · cases hf
  rename_i A1 n' hm
  cases mk_e hm
  split at hf
  · cases hf
  rename_i i2 A2 r' he
  split at hf
  rotate_left
  · cases hf
  cases hf
  obtain ⟨⟨x1, x2, x3, x4, x5, x6, x7⟩, q⟩ := j_bin hS hi h2 h0 hl (by omega) hc hs he hT3
  subst x1
  exact ⟨⟨rfl, by rw [x2], x4, x5, x6, x7⟩, q, hT3⟩
/-- from a left operand on -/
def jL (N h : Nat) (P : Int → pF) (F : Int → aF) : Prop := ∀ l i τ A b i' τ' A' q, i ≤ N → sg_g τ 2 16 = A.1 → 0 ≤ b ∧ b ≤ A.1 ∧ A.1 ≤ 200 → jQ τ A b l h → cTc A b l → P l i τ = some (i', τ', q) → F l i A = some (i', A', q) → jQ τ' A' b q h
theorem jF_then {P : pF} {F : aF} {G : Int → pF} {G' : Int → aF} (hP : cBq c t N h P F) (hG : jL N h G G') {i i' : Nat} {τ τ' : sg_S} {A A' : aT} {q : Int} (hi : i ≤ N) (h2 : sg_g τ 2 16 = A.1) (h0 : 0 ≤ A.1 ∧ A.1 ≤ 200) {i1 j1 : Nat} {τ1 : sg_S} {A1 : aT} {l l' : Int} (eP : P i τ = some (i1, τ1, l)) (eF : F i A = some (j1, A1, l')) (gP : G l i1 τ1 = some (i', τ', q)) (gF' : G' l' j1 A1 = some (i', A', q)) : jQ τ' A' A.1 q h := by
  obtain ⟨⟨x1, x2, x3, x4, x5, x6⟩, f1, g1, t1, q1⟩ := j_call hP hi h2 h0 eP eF
  subst x1
  subst x2
  exact hG _ _ _ _ _ _ _ _ _ x3 x4 ⟨h0.1, x5, x6⟩ q1 t1 gP gF'
theorem jL_rowL (hB : tkB c t N) {S : pF} {S' : aF} (hS : cBq c t N h S S') {pq : Int → Bool} {aq : Nat → Option Int} (hq : ∀ i, i ≤ N → (pq (tK c i) = false ∧ aq i = none) ∨ (pq (tK c i) = true ∧ ∃ kd, aq i = some kd ∧ tK c i = kmp kd ∧ (4 ≤ kd ∧ kd ≤ 10) ∧ i < N)) : ∀ (m m' : Nat) (l : Int) (i : Nat) (τ : sg_S) (A : aT) (b : Int) (i' : Nat) (τ' : sg_S) (A' : aT) (q : Int), i ≤ N → sg_g τ 2 16 = A.1 → 0 ≤ b ∧ b ≤ A.1 ∧ A.1 ≤ 200 → jQ τ A b l h → cTc A b l → (201 - A.1).toNat ≤ m → (201 - A.1).toNat ≤ m' → pRowL c pq S m l i τ = some (i', τ', q) → aRowL t aq S' m' l i A = some (i', A', q) → jQ τ' A' b q h
  | 0, m', l, i, τ, A, b, i', τ', A', q, hi, h2, h0, hl, hT, hm, hm', eP, eF => by omega
  | m + 1, 0, l, i, τ, A, b, i', τ', A', q, hi, h2, h0, hl, hT, hm, hm', eP, eF => by omega
  | m + 1, m' + 1, l, i, τ, A, b, i', τ', A', q, hi, h2, h0, hl, hT, hm, hm', eP, eF => by
    unfold pRowL at eP
    unfold aRowL at eF
    rcases hq i hi with ⟨a1, a2⟩ | ⟨a1, kd, a2, a3, a4, a5⟩
    · rw [a1, if_neg (by decide)] at eP
      rw [a2] at eF
      cases eP
      cases eF
      exact hl
    · rw [a1, if_pos rfl] at eP
      rw [a2] at eF
      simp only at eF
      split at eP
      · cases eP
      rename_i i1 τ1 k hc
      split at eP
      · cases eP
      rename_i i2 τ2 r hs
      split at eF
      · cases eF
      rename_i j2 A2 n hb
      obtain ⟨⟨x1, x2, x3, x4, x5, x6⟩, x7, x8⟩ := j_btw hS (by omega) h2 h0 hl hT a4 hc hs hb
      subst x1
      subst x2
      exact jL_rowL hB hS hq m m' _ _ _ _ b _ _ _ _ x3 x4 ⟨h0.1, by omega, x5⟩ x7 x8 (by omega) (by omega) eP eF
theorem jF_row (hB : tkB c t N) {S : pF} {S' : aF} (hS : cBq c t N h S S') {pq : Int → Bool} {aq : Nat → Option Int} (hq : ∀ i, i ≤ N → (pq (tK c i) = false ∧ aq i = none) ∨ (pq (tK c i) = true ∧ ∃ kd, aq i = some kd ∧ tK c i = kmp kd ∧ (4 ≤ kd ∧ kd ≤ 10) ∧ i < N)) : jF N h (pRow c pq S) (aRow t aq S') := by
  intro i τ A i' τ' A' q hi h2 h0 eP eF
  unfold pRow at eP
  unfold aRow at eF
  split at eP
  · cases eP
  rename_i i1 τ1 l e1
  split at eF
  · cases eF
  rename_i j1 A1 l' e2
  unfold aRowR at eF
  refine jF_then hS (G := pRowL c pq S 201) (G' := fun l i A => aRowL t aq S' (201 - A.1).toNat l i A) (fun l i τ A b i' τ' A' q x1 x2 x3 x4 x5 x6 x7 => jL_rowL hB hS hq 201 _ l i τ A b i' τ' A' q x1 x2 x3 x4 x5 (by omega) (Nat.le_refl _) x6 x7) hi h2 h0 e1 e2 eP eF
theorem jF_cmp (hB : tkB c t N) {S : pF} {S' : aF} (hS : cBq c t N h S S') (hq : ∀ i, i ≤ N → ((tK c i = 60 ∨ tK c i = 61) ∧ ∃ kd, aqC t i = some kd ∧ (4 ≤ kd ∧ kd ≤ 10)) ∨ (¬ (tK c i = 60 ∨ tK c i = 61) ∧ aqC t i = none)) : jF N h (pCmp c S) (aCmp t S') := by
  intro i τ A i' τ' A' q hi h2 h0 eP eF
  unfold pCmp at eP
  unfold aCmp at eF
  split at eP
  · cases eP
  rename_i i1 τ1 l e1
  split at eF
  · cases eF
  rename_i j1 A1 l' e2
  obtain ⟨⟨x1, x2, x3, x4, x5, x6⟩, f1, g1, t1, q1⟩ := j_call hS hi h2 h0 e1 e2
  subst x1
  subst x2
  unfold aCmpR at eF
  rcases hq j1 x3 with ⟨a1, kd, a2, a3⟩ | ⟨a1, a2⟩
  · rw [if_pos a1] at eP
    rw [a2] at eF
    simp only at eF
    split at eP
    · cases eP
    rename_i i2 τ2 k hc
    split at eP
    · cases eP
    rename_i i3 τ3 r hs
    cases eP
    obtain ⟨-, x7, x8⟩ := j_btw hS (nx_ok hB x3 (by omega)) x4 ⟨h0.1, x5, x6⟩ q1 t1 a3 hc hs eF
    exact x7
  · rw [if_neg a1] at eP
    rw [a2] at eF
    cases eP
    cases eF
    exact q1
theorem jL_itL (hB : tkB c t N) {w : Bool} {S : pF} {S' : aF} (hS : w = true → cBq c t N h S S') : ∀ (m m' : Nat) (l : Int) (i : Nat) (τ : sg_S) (A : aT) (b : Int) (i' : Nat) (τ' : sg_S) (A' : aT) (q : Int), i ≤ N → sg_g τ 2 16 = A.1 → 0 ≤ b ∧ b ≤ A.1 ∧ A.1 ≤ 200 → jQ τ A b l h → cTc A b l → (201 - A.1).toNat ≤ m → (201 - A.1).toNat ≤ m' → pItL c w S m l i τ = some (i', τ', q) → aBehL t w S' m' l i A = some (i', A', q) → jQ τ' A' b q h
  | 0, m', l, i, τ, A, b, i', τ', A', q, hi, h2, h0, hl, hT, hm, hm', eP, eF => by omega
  | m + 1, 0, l, i, τ, A, b, i', τ', A', q, hi, h2, h0, hl, hT, hm, hm', eP, eF => by omega
  | m + 1, m' + 1, l, i, τ, A, b, i', τ', A', q, hi, h2, h0, hl, hT, hm, hm', eP, eF => by
    unfold pItL at eP
    unfold aBehL at eF
    have bs := b_sg hB hi (ch := 91) (by decide)
    by_cases ck : tK c i = 91
    · rw [if_pos ck] at eP
      rw [if_pos (bs.mpr ck)] at eF
      split at eP
      rotate_left
      · cases eP
      rename_i hw
      rw [if_pos hw] at eF
      split at eP
      · cases eP
      rename_i i1 τ1 k hc
      split at eP
      · cases eP
      rename_i i2 τ2 r hs
      split at eP
      rotate_left
      · cases eP
      rename_i hk2
      split at eF
      · cases eF
      rename_i j2 A2 n hb
      obtain ⟨⟨x1, x2, x3, x4, x5, x6⟩, x7, x8⟩ := j_idx (hS hw) (nx_ok hB hi (by omega)) h2 h0 hl hT hc hs hb
      subst x1
      subst x2
      exact jL_itL hB hS m m' _ _ _ _ b _ _ _ _ (nx_ok hB x3 (by omega)) x4 ⟨h0.1, by omega, x5⟩ x7 x8 (by omega) (by omega) eP eF
    · rw [if_neg ck] at eP
      rw [if_neg (fun z => ck (bs.mp z))] at eF
      cases eP
      cases eF
      exact hl
end JQS
