/-! Ranges and levels: LET, IF, operators. -/
def jF (N : Nat) (h : Nat) (P : pF) (F : aF) : Prop := ∀ i τ A i' τ' A' q, i ≤ N → sg_g τ 2 16 = A.1 → 0 ≤ A.1 ∧ A.1 ≤ 200 → P i τ = some (i', τ', q) → F i A = some (i', A', q) → jQ τ' A' A.1 q h
/-- all that is known of what reads a part -/
def cBq (c : tkC) (t : aK) (N h : Nat) (E : pF) (E' : aF) : Prop := sF c t N E E' ∧ gF E' ∧ tF E' ∧ jF N h E E'
theorem hNq_m {A : aT} {h h' : Nat} {x : Int} (a : hNq A h x) (b : h ≤ h') : hNq A h' x := fun fu => Nat.le_trans (a fu) b
theorem jQ_m {τ : sg_S} {A : aT} {b q : Int} {h h' : Nat} (a : jQ τ A b q h) (hh : h ≤ h') : jQ τ A b q h' := ⟨a.1, a.2.1, a.2.2.1, hNq_m a.2.2.2 hh⟩
theorem cB_m {c : tkC} {t : aK} {N h h' : Nat} {E : pF} {E' : aF} (a : cBq c t N h E E') (hh : h ≤ h') : cBq c t N h' E E' := ⟨a.1, a.2.1, a.2.2.1, fun i τ A i' τ' A' q x1 x2 x3 x4 x5 => jQ_m (a.2.2.2 i τ A i' τ' A' q x1 x2 x3 x4 x5) hh⟩
section JPS
variable {c : tkC} {t : aK} {N h : Nat}
theorem j_call {E : pF} {E' : aF} (hE : cBq c t N h E E') {i i1 j1 : Nat} {τ τ1 : sg_S} {A A1 : aT} {q r : Int} (hi : i ≤ N) (h2 : sg_g τ 2 16 = A.1) (h0 : 0 ≤ A.1 ∧ A.1 ≤ 200) (eP : E i τ = some (i1, τ1, q)) (eF : E' i A = some (j1, A1, r)) : (j1 = i1 ∧ r = q ∧ i1 ≤ N ∧ sg_g τ1 2 16 = A1.1 ∧ A.1 ≤ A1.1 ∧ A1.1 ≤ 200) ∧ fB τ τ1 A.1 ∧ gr A A1 ∧ cTc A1 A.1 q ∧ jQ τ1 A1 A.1 q h := by
  obtain ⟨e1, e2, e3, e4⟩ := hE
  rcases e1 i τ A hi h2 h0 with ⟨x, -⟩ | ⟨i', τ', A', q', x1, x2, x3, x4, x5⟩
  · rw [x] at eP; cases eP
  · rw [x1] at eP
    rw [x2] at eF
    cases eP
    cases eF
    have g := e2 _ _ _ _ _ x2 h0
    exact ⟨⟨rfl, rfl, x3, x4.1, g.1.1, g.2.2.2⟩, x5, g.1, e3 _ _ _ _ _ x2 h0, e4 _ _ _ _ _ _ _ hi h2 h0 x1 x2⟩
theorem j_part {E : pF} {E' : aF} (hE : cBq c t N h E E') {i i1 j1 : Nat} {τ τ1 : sg_S} {A A1 : aT} {b n q r : Int} (hi : i ≤ N) (h2 : sg_g τ 2 16 = A.1) (h0 : 0 ≤ b ∧ A.1 ≤ 200) (hj : jO τ A b n h) (eP : E i τ = some (i1, τ1, q)) (eF : E' i A = some (j1, A1, r)) : (j1 = i1 ∧ r = q ∧ i1 ≤ N ∧ sg_g τ1 2 16 = A1.1 ∧ A.1 ≤ A1.1 ∧ A1.1 ≤ 200) ∧ jO τ1 A1 b n h ∧ ((b ≤ q ∧ q < A1.1 ∧ ¬ q = n) ∧ hNq A1 h q) ∧ jO (pAttach τ1 n q) (aKid A1 n q) b n h ∧ sg_g (pAttach τ1 n q) 2 16 = A1.1 := by
  have hb := hj.1
  obtain ⟨a1, a2, a3, a4, a5⟩ := j_call hE hi h2 (by omega) eP eF
  obtain ⟨o1, o2⟩ := jO_E hj a2 a3 a5
  refine ⟨a1, o1, o2, jO_r (jO_k o1 o2) (fun k => ⟨(p_at11 _ _ _ _).1, (p_at11 _ _ _ _).2.1⟩), ?_⟩
  rw [(p_at11 _ _ _ 0).2.2]; exact a1.2.2.2.1
theorem jCq_0 (τ : sg_S) (A : aT) : jCq τ A A.1 := fun k a b => by omega
theorem mk_e {i : Nat} {A : aT} {kd : Int} {r : aT × Int} (hm : aMk t i A kd = some r) : r = (aNew A kd (t.2.2 i) (t.2.1 i), A.1) := (mk_s hm).1
theorem if1 (p : Prop) [Decidable p] : h + (if p then 1 else 0) ≤ h + 1 := by split <;> omega
theorem nx_ok (hB : tkB c t N) {i : Nat} (hi : i ≤ N) (hk : tK c i ≤ 255 ∨ tK c i = 257 ∨ tK c i = 258 ∨ 261 ≤ tK c i) : i + 1 ≤ N := by
  have s := b_s hB hi
  have := b_lt hB hi (by
    rcases hk with q | q | q | q
    · have := s.2.2.2.2.mpr q; omega
    · have := s.2.1.mpr q; omega
    · have := s.2.2.1.mpr (Or.inl q); omega
    · have := s.2.2.1.mpr (Or.inr q); omega)
  omega
theorem jF_let {E : pF} {E' : aF} (hE : cBq c t N h E E') (hB : tkB c t N) {i : Nat} {τ : sg_S} {A : aT} {i' : Nat} {τ' : sg_S} {A' : aT} {q : Int} (hi : i ≤ N) (hk : tK c i = 262) (h2 : sg_g τ 2 16 = A.1) (h0 : 0 ≤ A.1 ∧ A.1 ≤ 200) (eP : pLet c E i τ = some (i', τ', q)) (eF : aLet t E' i A = some (i', A', q)) : jQ τ' A' A.1 q (h + 1) := by
  have hT := tF_let hE.2.1 hE.2.2.1 _ _ _ _ _ eF h0
  unfold pLet at eP
  split at eP
  · cases eP
  rename_i i1 τ1 k hc
  obtain ⟨k1, k2, k3, k4, k5, k6, k7⟩ := jO_new (kd := 2) (p := t.2.2 i) (w := t.2.1 i) (h := h) (jCq_0 τ A) (Int.le_refl _) h2 h0.1 hc
  subst k1
  subst k2
  split at eP
  rotate_left
  · cases eP
  rename_i hk1
  split at eP
  rotate_left
  · cases eP
  rename_i hk61
  split at eP
  · cases eP
  rename_i i2 τ2 a he
  split at eP
  rotate_left
  · cases eP
  rename_i hk2
  split at eP
  · cases eP
  rename_i i3 τ3 b hf
  cases eP
  unfold aLet at eF
  split at eF
  · cases eF
  rename_i A1 n hm
  cases mk_e hm
  split at eF
  rotate_left
  · cases eF
  split at eF
  rotate_left
  · cases eF
  split at eF
  · cases eF
  rename_i j2 A2 a' he'
  split at eF
  rotate_left
  · cases eF
  split at eF
  · cases eF
  rename_i j3 A3 b' hf'
  cases eF
  have o1 : jO (sx_putl τ1 17 200 A.1 (tW c (i + 1))) (aWd (aNew A 2 (t.2.2 i) (t.2.1 i)) A.1 (t.2.1 (i + 1))) A.1 A.1 h := jO_x k7 (fun k => ⟨sxl_c _ _ _ _ _ _ _, sxl_c _ _ _ _ _ _ _⟩) rfl (fun _ _ => ⟨rfl, rfl, rfl⟩) (fun _ hx => Or.inl hx)
  obtain ⟨⟨x1, x2, x3, x4, x5, x6⟩, -, -, o2, s2⟩ := j_part hE (nx_ok hB (nx_ok hB (nx_ok hB hi (by omega)) (by omega)) (by omega)) (by rw [sxl_c]; simp only [aWd_1, aNew_1]; exact k3) (by simp only [aWd_1, aNew_1]; omega) o1 he he'
  subst x1
  subst x2
  obtain ⟨⟨-, y2, y3, y4, y5, y6⟩, -, -, o3, s3⟩ := j_part hE (nx_ok hB x3 (by omega)) (by simp only [aKid_1]; exact s2) (by simp only [aKid_1]; omega) o2 hf hf'
  subst y2
  exact jQ_c o3 hT (by simp only [aKid_1]; exact s3) (by simp only [aKid_1]; omega) (if1 _)
theorem jF_if {E : pF} {E' : aF} (hE : cBq c t N h E E') (hB : tkB c t N) {i : Nat} {τ : sg_S} {A : aT} {i' : Nat} {τ' : sg_S} {A' : aT} {q : Int} (hi : i ≤ N) (hk : tK c i = 264) (h2 : sg_g τ 2 16 = A.1) (h0 : 0 ≤ A.1 ∧ A.1 ≤ 200) (eP : pIf c E i τ = some (i', τ', q)) (eF : aIf t E' i A = some (i', A', q)) : jQ τ' A' A.1 q (h + 1) := by
  have hT := tF_if hE.2.1 hE.2.2.1 _ _ _ _ _ eF h0
  unfold pIf at eP
  split at eP
  · cases eP
  rename_i i1 τ1 k hc
  obtain ⟨k1, k2, k3, k4, k5, k6, k7⟩ := jO_new (kd := 3) (p := t.2.2 i) (w := t.2.1 i) (h := h) (jCq_0 τ A) (Int.le_refl _) h2 h0.1 hc
  subst k1
  subst k2
  split at eP
  · cases eP
  rename_i i2 τ2 a he
  split at eP
  rotate_left
  · cases eP
  rename_i hk1
  split at eP
  · cases eP
  rename_i i3 τ3 b hf
  split at eP
  rotate_left
  · cases eP
  rename_i hk2
  split at eP
  · cases eP
  rename_i i4 τ4 e hg
  cases eP
  unfold aIf at eF
  split at eF
  · cases eF
  rename_i A1 n hm
  cases mk_e hm
  split at eF
  · cases eF
  rename_i j2 A2 a' he'
  split at eF
  rotate_left
  · cases eF
  split at eF
  · cases eF
  rename_i j3 A3 b' hf'
  split at eF
  rotate_left
  · cases eF
  split at eF
  · cases eF
  rename_i j4 A4 e' hg'
  cases eF
  obtain ⟨⟨x1, x2, x3, x4, x5, x6⟩, -, -, o2, s2⟩ := j_part hE (nx_ok hB hi (by omega)) (by simp only [aNew_1]; exact k3) (by simp only [aNew_1]; omega) k7 he he'
  subst x1
  subst x2
  obtain ⟨⟨y1, y2, y3, y4, y5, y6⟩, -, -, o3, s3⟩ := j_part hE (nx_ok hB x3 (by omega)) (by simp only [aKid_1]; exact s2) (by simp only [aKid_1]; omega) o2 hf hf'
  subst y1
  subst y2
  obtain ⟨⟨-, z2, z3, z4, z5, z6⟩, -, -, o4, s4⟩ := j_part hE (nx_ok hB y3 (by omega)) (by simp only [aKid_1]; exact s3) (by simp only [aKid_1]; omega) o3 hg hg'
  subst z2
  exact jQ_c o4 hT (by simp only [aKid_1]; exact s4) (by simp only [aKid_1]; omega) (if1 _)
end JPS
/-! Ranges and levels: signs between operands, [ ]. -/
section JQS
variable {c : tkC} {t : aK} {N h : Nat}
theorem j_bin {S : pF} {S' : aF} (hS : cBq c t N h S S') {i i1 i3 j3 : Nat} {τ τ1 τ3 : sg_S} {A A2 : aT} {b l k r r' kd p w : Int} (hi : i + 1 ≤ N) (h2 : sg_g τ 2 16 = A.1) (h0 : 0 ≤ b ∧ b ≤ A.1 ∧ A.1 ≤ 200) (hl : jQ τ A b l h) (hkd : ¬ kd = 3 ∧ ¬ kd = 15) (hc : pCreate c i τ = some (i1, τ1, k)) (hs : S i1 τ1 = some (i3, τ3, r)) (hf : S' (i + 1) (aKid (aNew A kd p w) A.1 l) = some (j3, A2, r')) (hT : cTc (aKid A2 A.1 r') b A.1) : (k = A.1 ∧ j3 = i3 ∧ r' = r ∧ i3 ≤ N ∧ sg_g (pBoth τ3 k l r) 2 16 = A2.1 ∧ A2.1 ≤ 200 ∧ A.1 < A2.1) ∧ jQ (pBoth τ3 k l r) (aKid A2 A.1 r') b A.1 h := by
  obtain ⟨k1, k2, k3, k4, k5, k6, k7⟩ := jO_new (kd := kd) (p := p) (w := w) (h := h) hl.1 h0.2.1 h2 (by omega) hc
  subst k1
  subst k2
  have lA := hl.2.1
  have eqn : ∀ x, x < A.1 → (aNew A kd p w).2.1 x = A.2.1 x ∧ (aNew A kd p w).2.2.2.2.1 x = A.2.2.2.2.1 x ∧ (aNew A kd p w).2.2.2.2.2 x = A.2.2.2.2.2 x := fun x hx => by
    have xn : ¬ x = A.1 := by omega
    simp only [aNew, aU_n _ _ xn, and_self]
  have jl := hl.1 l lA.1 lA.2
  have o1 := jO_k k7 (q := l) ⟨⟨lA.1, by simp only [aNew_1]; omega, by omega⟩, hNq_x hl.2.2.2 jl (fun x _ q => eqn x (by have := jl.1.2; omega))⟩
  obtain ⟨⟨x1, x2, x3, x4, x5, x6⟩, f1, g1, -, q1⟩ := j_call hS hi (by simp only [aKid_1, aNew_1]; exact k3) (by simp only [aKid_1, aNew_1]; omega) hs hf
  subst x1
  subst x2
  simp only [aKid_1, aNew_1] at x5
  obtain ⟨o2, o3⟩ := jO_E o1 f1 g1 q1
  have o4 := jO_k o2 o3
  have l11 : sg_g τ3 11 l = b := by
    rw [(f1.1 11 l (by decide) (by simp only [aKid_1, aNew_1]; omega)).1, (k6 l (by omega)).1]; exact hl.2.2.1
  have a11 : ∀ j, sg_g (pAttach (pAttach τ3 A.1 l) A.1 r') 11 j = sg_g τ3 11 j ∧ sg_g (pAttach (pAttach τ3 A.1 l) A.1 r') 12 j = sg_g τ3 12 j ∧ sg_g (pAttach (pAttach τ3 A.1 l) A.1 r') 2 16 = sg_g τ3 2 16 := fun j => by
    obtain ⟨y1, y2, y3⟩ := p_at11 (pAttach τ3 A.1 l) A.1 r' j
    obtain ⟨z1, z2, z3⟩ := p_at11 τ3 A.1 l j
    exact ⟨y1.trans z1, y2.trans z2, y3.trans z3⟩
  have eB : pBoth τ3 A.1 l r' = pClose (pAttach (pAttach τ3 A.1 l) A.1 r') A.1 b := by
    unfold pBoth
    rw [xa_in (a := 11) ⟨by omega, by omega⟩, (a11 l).1, l11]
  have kk : (aKid A2 A.1 r').2.1 A.1 = kd := by
    simp only [aKid]
    rw [(g1.2 A.1 (by simp only [aKid_1, aNew_1]; omega)).1]
    simp only [aKid, aNew, aU_e]
  have o5 := jO_r o4 (fun j => ⟨(a11 j).1, (a11 j).2.1⟩)
  rw [eB]
  have s2 : sg_g (pAttach (pAttach τ3 A.1 l) A.1 r') 2 16 = A2.1 := by rw [(a11 0).2.2]; exact x4
  refine ⟨⟨rfl, rfl, rfl, x3, ?_, x6, by omega⟩, jQ_c o5 hT (by simp only [aKid_1]; exact s2) (by simp only [aKid_1]; omega) (by rw [kk, if_neg (by omega)]; exact Nat.le_refl _)⟩
  unfold pClose
  rw [sxp_c _ _ _ _ _ _ _ (by decide), sxp_c _ _ _ _ _ _ _ (by decide)]
  exact s2
theorem j_btw {S : pF} {S' : aF} (hS : cBq c t N h S S') {i i1 i3 j3 : Nat} {τ τ1 τ3 : sg_S} {A A3 : aT} {b l k r n kd : Int} (hi : i + 1 ≤ N) (h2 : sg_g τ 2 16 = A.1) (h0 : 0 ≤ b ∧ b ≤ A.1 ∧ A.1 ≤ 200) (hl : jQ τ A b l h) (hT : cTc A b l) (hkd : 4 ≤ kd ∧ kd ≤ 10) (hc : pCreate c i τ = some (i1, τ1, k)) (hs : S i1 τ1 = some (i3, τ3, r)) (hf : aBtw t kd S' l i A = some (j3, A3, n)) : (n = k ∧ j3 = i3 ∧ i3 ≤ N ∧ sg_g (pBoth τ3 k l r) 2 16 = A3.1 ∧ A3.1 ≤ 200 ∧ A.1 < A3.1) ∧ jQ (pBoth τ3 k l r) A3 b k h ∧ cTc A3 b k := by
  have hT3 := t_btw hS.2.1 hS.2.2.1 hkd hf (by omega) h0.2.1 hT
  unfold aBtw at hf
  split at hf
  · cases hf
  rename_i A1 n' hm
  cases mk_e hm
  split at hf
  · cases hf
  rename_i i2 A2 r' he
  cases hf
  obtain ⟨⟨x1, x2, x3, x4, x5, x6, x7⟩, q⟩ := j_bin hS hi h2 h0 hl (by omega) hc hs he hT3
  subst x1
  exact ⟨⟨rfl, x2, x4, x5, x6, x7⟩, q, hT3⟩
theorem j_idx {S : pF} {S' : aF} (hS : cBq c t N h S S') {i i1 i3 j3 : Nat} {τ τ1 τ3 : sg_S} {A A3 : aT} {b l k r n : Int} (hi : i + 1 ≤ N) (h2 : sg_g τ 2 16 = A.1) (h0 : 0 ≤ b ∧ b ≤ A.1 ∧ A.1 ≤ 200) (hl : jQ τ A b l h) (hT : cTc A b l) (hc : pCreate c i τ = some (i1, τ1, k)) (hs : S i1 τ1 = some (i3, τ3, r)) (hf : aIdx t S' l i A = some (j3, A3, n)) : (n = k ∧ j3 = i3 + 1 ∧ i3 ≤ N ∧ sg_g (pBoth τ3 k l r) 2 16 = A3.1 ∧ A3.1 ≤ 200 ∧ A.1 < A3.1) ∧ jQ (pBoth τ3 k l r) A3 b k h ∧ cTc A3 b k := by
  have hT3 := t_idx hS.2.1 hS.2.2.1 hf (by omega) h0.2.1 hT
  unfold aIdx at hf
  split at hf
  · cases hf
  rename_i A1 n' hm
  cases mk_e hm
  split at hf
  · cases hf
  rename_i i2 A2 r' he
  split at hf
  rotate_left
  · cases hf
  cases hf
  obtain ⟨⟨x1, x2, x3, x4, x5, x6, x7⟩, q⟩ := j_bin hS hi h2 h0 hl (by omega) hc hs he hT3
  subst x1
  exact ⟨⟨rfl, by rw [x2], x4, x5, x6, x7⟩, q, hT3⟩
/-- from a left operand on -/
def jL (N h : Nat) (P : Int → pF) (F : Int → aF) : Prop := ∀ l i τ A b i' τ' A' q, i ≤ N → sg_g τ 2 16 = A.1 → 0 ≤ b ∧ b ≤ A.1 ∧ A.1 ≤ 200 → jQ τ A b l h → cTc A b l → P l i τ = some (i', τ', q) → F l i A = some (i', A', q) → jQ τ' A' b q h
theorem jF_then {P : pF} {F : aF} {G : Int → pF} {G' : Int → aF} (hP : cBq c t N h P F) (hG : jL N h G G') {i i' : Nat} {τ τ' : sg_S} {A A' : aT} {q : Int} (hi : i ≤ N) (h2 : sg_g τ 2 16 = A.1) (h0 : 0 ≤ A.1 ∧ A.1 ≤ 200) {i1 j1 : Nat} {τ1 : sg_S} {A1 : aT} {l l' : Int} (eP : P i τ = some (i1, τ1, l)) (eF : F i A = some (j1, A1, l')) (gP : G l i1 τ1 = some (i', τ', q)) (gF' : G' l' j1 A1 = some (i', A', q)) : jQ τ' A' A.1 q h := by
  obtain ⟨⟨x1, x2, x3, x4, x5, x6⟩, f1, g1, t1, q1⟩ := j_call hP hi h2 h0 eP eF
  subst x1
  subst x2
  exact hG _ _ _ _ _ _ _ _ _ x3 x4 ⟨h0.1, x5, x6⟩ q1 t1 gP gF'
theorem jL_rowL (hB : tkB c t N) {S : pF} {S' : aF} (hS : cBq c t N h S S') {pq : Int → Bool} {aq : Nat → Option Int} (hq : ∀ i, i ≤ N → (pq (tK c i) = false ∧ aq i = none) ∨ (pq (tK c i) = true ∧ ∃ kd, aq i = some kd ∧ tK c i = kmp kd ∧ (4 ≤ kd ∧ kd ≤ 10) ∧ i < N)) : ∀ (m m' : Nat) (l : Int) (i : Nat) (τ : sg_S) (A : aT) (b : Int) (i' : Nat) (τ' : sg_S) (A' : aT) (q : Int), i ≤ N → sg_g τ 2 16 = A.1 → 0 ≤ b ∧ b ≤ A.1 ∧ A.1 ≤ 200 → jQ τ A b l h → cTc A b l → (201 - A.1).toNat ≤ m → (201 - A.1).toNat ≤ m' → pRowL c pq S m l i τ = some (i', τ', q) → aRowL t aq S' m' l i A = some (i', A', q) → jQ τ' A' b q h
  | 0, m', l, i, τ, A, b, i', τ', A', q, hi, h2, h0, hl, hT, hm, hm', eP, eF => by omega
  | m + 1, 0, l, i, τ, A, b, i', τ', A', q, hi, h2, h0, hl, hT, hm, hm', eP, eF => by omega
  | m + 1, m' + 1, l, i, τ, A, b, i', τ', A', q, hi, h2, h0, hl, hT, hm, hm', eP, eF => by
    unfold pRowL at eP
    unfold aRowL at eF
    rcases hq i hi with ⟨a1, a2⟩ | ⟨a1, kd, a2, a3, a4, a5⟩
    · rw [a1, if_neg (by decide)] at eP
      rw [a2] at eF
      cases eP
      cases eF
      exact hl
    · rw [a1, if_pos rfl] at eP
      rw [a2] at eF
      simp only at eF
      split at eP
      · cases eP
      rename_i i1 τ1 k hc
      split at eP
      · cases eP
      rename_i i2 τ2 r hs
      split at eF
      · cases eF
      rename_i j2 A2 n hb
      obtain ⟨⟨x1, x2, x3, x4, x5, x6⟩, x7, x8⟩ := j_btw hS (by omega) h2 h0 hl hT a4 hc hs hb
      subst x1
      subst x2
      exact jL_rowL hB hS hq m m' _ _ _ _ b _ _ _ _ x3 x4 ⟨h0.1, by omega, x5⟩ x7 x8 (by omega) (by omega) eP eF
theorem jF_row (hB : tkB c t N) {S : pF} {S' : aF} (hS : cBq c t N h S S') {pq : Int → Bool} {aq : Nat → Option Int} (hq : ∀ i, i ≤ N → (pq (tK c i) = false ∧ aq i = none) ∨ (pq (tK c i) = true ∧ ∃ kd, aq i = some kd ∧ tK c i = kmp kd ∧ (4 ≤ kd ∧ kd ≤ 10) ∧ i < N)) : jF N h (pRow c pq S) (aRow t aq S') := by
  intro i τ A i' τ' A' q hi h2 h0 eP eF
  unfold pRow at eP
  unfold aRow at eF
  split at eP
  · cases eP
  rename_i i1 τ1 l e1
  split at eF
  · cases eF
  rename_i j1 A1 l' e2
  unfold aRowR at eF
  refine jF_then hS (G := pRowL c pq S 201) (G' := fun l i A => aRowL t aq S' (201 - A.1).toNat l i A) (fun l i τ A b i' τ' A' q x1 x2 x3 x4 x5 x6 x7 => jL_rowL hB hS hq 201 _ l i τ A b i' τ' A' q x1 x2 x3 x4 x5 (by omega) (Nat.le_refl _) x6 x7) hi h2 h0 e1 e2 eP eF
theorem jF_cmp (hB : tkB c t N) {S : pF} {S' : aF} (hS : cBq c t N h S S') (hq : ∀ i, i ≤ N → ((tK c i = 60 ∨ tK c i = 61) ∧ ∃ kd, aqC t i = some kd ∧ (4 ≤ kd ∧ kd ≤ 10)) ∨ (¬ (tK c i = 60 ∨ tK c i = 61) ∧ aqC t i = none)) : jF N h (pCmp c S) (aCmp t S') := by
  intro i τ A i' τ' A' q hi h2 h0 eP eF
  unfold pCmp at eP
  unfold aCmp at eF
  split at eP
  · cases eP
  rename_i i1 τ1 l e1
  split at eF
  · cases eF
  rename_i j1 A1 l' e2
  obtain ⟨⟨x1, x2, x3, x4, x5, x6⟩, f1, g1, t1, q1⟩ := j_call hS hi h2 h0 e1 e2
  subst x1
  subst x2
  unfold aCmpR at eF
  rcases hq j1 x3 with ⟨a1, kd, a2, a3⟩ | ⟨a1, a2⟩
  · rw [if_pos a1] at eP
    rw [a2] at eF
    simp only at eF
    split at eP
    · cases eP
    rename_i i2 τ2 k hc
    split at eP
    · cases eP
    rename_i i3 τ3 r hs
    cases eP
    obtain ⟨-, x7, x8⟩ := j_btw hS (nx_ok hB x3 (by omega)) x4 ⟨h0.1, x5, x6⟩ q1 t1 a3 hc hs eF
    exact x7
  · rw [if_neg a1] at eP
    rw [a2] at eF
    cases eP
    cases eF
    exact q1
theorem jL_itL (hB : tkB c t N) {w : Bool} {S : pF} {S' : aF} (hS : w = true → cBq c t N h S S') : ∀ (m m' : Nat) (l : Int) (i : Nat) (τ : sg_S) (A : aT) (b : Int) (i' : Nat) (τ' : sg_S) (A' : aT) (q : Int), i ≤ N → sg_g τ 2 16 = A.1 → 0 ≤ b ∧ b ≤ A.1 ∧ A.1 ≤ 200 → jQ τ A b l h → cTc A b l → (201 - A.1).toNat ≤ m → (201 - A.1).toNat ≤ m' → pItL c w S m l i τ = some (i', τ', q) → aBehL t w S' m' l i A = some (i', A', q) → jQ τ' A' b q h
  | 0, m', l, i, τ, A, b, i', τ', A', q, hi, h2, h0, hl, hT, hm, hm', eP, eF => by omega
  | m + 1, 0, l, i, τ, A, b, i', τ', A', q, hi, h2, h0, hl, hT, hm, hm', eP, eF => by omega
  | m + 1, m' + 1, l, i, τ, A, b, i', τ', A', q, hi, h2, h0, hl, hT, hm, hm', eP, eF => by
    unfold pItL at eP
    unfold aBehL at eF
    have bs := b_sg hB hi (ch := 91) (by decide)
    by_cases ck : tK c i = 91
    · rw [if_pos ck] at eP
      rw [if_pos (bs.mpr ck)] at eF
      split at eP
      rotate_left
      · cases eP
      rename_i hw
      rw [if_pos hw] at eF
      split at eP
      · cases eP
      rename_i i1 τ1 k hc
      split at eP
      · cases eP
      rename_i i2 τ2 r hs
      split at eP
      rotate_left
      · cases eP
      rename_i hk2
      split at eF
      · cases eF
      rename_i j2 A2 n hb
      obtain ⟨⟨x1, x2, x3, x4, x5, x6⟩, x7, x8⟩ := j_idx (hS hw) (nx_ok hB hi (by omega)) h2 h0 hl hT hc hs hb
      subst x1
      subst x2
      exact jL_itL hB hS m m' _ _ _ _ b _ _ _ _ (nx_ok hB x3 (by omega)) x4 ⟨h0.1, by omega, x5⟩ x7 x8 (by omega) (by omega) eP eF
    · rw [if_neg ck] at eP
      rw [if_neg (fun z => ck (bs.mp z))] at eF
      cases eP
      cases eF
      exact hl
end JQS
/-! Ranges and levels: lists, words, rows, { }. -/
section JRS
variable {c : tkC} {t : aK} {N h : Nat}
theorem jQ_l {τ : sg_S} {A : aT} {b n : Int} {h h' : Nat} (hj : jO τ A b n h) (hT : cTc A b n) (h11 : sg_g τ 11 n = b) (h12 : sg_g τ 12 n = A.1 - 1) (hk : A.2.2.2.2.1 n = []) (h3 : ¬ (A.2.1 n = 3 ∨ A.2.1 n = 15)) : jQ τ A b n h' := by
  obtain ⟨h1, h3', h4⟩ := hj
  refine ⟨fun k a d => ?_, h1, h11, fun fu => ?_⟩
  · by_cases ck : k = n
    · subst ck
      obtain ⟨L, l1, l2, l3, l4⟩ := hT
      refine ⟨by rw [h11, h12]; omega, L, l1, fun x => ?_⟩
      rw [h11, h12]
      constructor
      · intro hx; have := l3 x hx; omega
      · intro hx; exact l4 x hx.1 (by omega)
    · exact (h3' k a d ck).1
  · cases fu with
    | zero => simp [htN]
    | succ fu => simp only [htN, hk, List.map_nil, List.foldr_nil, if_neg h3]; omega
theorem j_lst (hB : tkB c t N) {E : pF} {E' : aF} (hE : cBq c t N h E E') {b n ch : Int} : ∀ (m m' : Nat) (i : Nat) (τ : sg_S) (A : aT) (i1 : Nat) (τ1 : sg_S) (j1 : Nat) (A1 : aT), i ≤ N → sg_g τ 2 16 = A.1 → 0 ≤ b ∧ A.1 ≤ 200 → jO τ A b n h → (201 - A.1).toNat ≤ m → (201 - A.1).toNat ≤ m' → pListL c E n m i τ = some (i1, τ1) → aLstL t E' n ch m' i A = some (j1, A1) → jO τ1 A1 b n h ∧ sg_g τ1 2 16 = A1.1 ∧ A1.1 ≤ 200
  | 0, m', i, τ, A, i1, τ1, j1, A1, hi, h2, h0, hj, hm, hm', eP, eF => by omega
  | m + 1, 0, i, τ, A, i1, τ1, j1, A1, hi, h2, h0, hj, hm, hm', eP, eF => by omega
  | m + 1, m' + 1, i, τ, A, i1, τ1, j1, A1, hi, h2, h0, hj, hm, hm', eP, eF => by
    unfold pListL at eP
    unfold aLstL at eF
    split at eP
    · cases eP
    rename_i i2 τ2 r he
    split at eF
    · cases eF
    rename_i j2 A2 r' he'
    have g := hE.2.1 _ _ _ _ _ he' (by have := hj.1; omega)
    obtain ⟨⟨x1, x2, x3, x4, x5, x6⟩, -, -, o2, s2⟩ := j_part hE hi h2 h0 hj he he'
    subst x1
    subst x2
    have bs := b_sg hB x3 (ch := 44) (by decide)
    by_cases ck : tK c j2 = 44
    · rw [if_pos ck] at eP
      rw [if_pos (bs.mpr ck)] at eF
      exact j_lst hB hE m m' _ _ _ _ _ _ _ (nx_ok hB x3 (by omega)) (by simp only [aKid_1]; exact s2) (by simp only [aKid_1]; omega) o2 (by simp only [aKid_1]; omega) (by simp only [aKid_1]; omega) eP eF
    · rw [if_neg ck] at eP
      rw [if_neg (fun z => ck (bs.mp z))] at eF
      cases eP
      split at eF
      · cases eF
        exact ⟨o2, by simp only [aKid_1]; exact s2, by simp only [aKid_1]; exact x6⟩
      · cases eF
/-- arguments -/
theorem j_args (hB : tkB c t N) {E : pF} {E' : aF} (hE : cBq c t N h E E') {b n : Int} {i : Nat} {τ : sg_S} {A : aT} {i' : Nat} {τ' : sg_S} {A' : aT} {q q' : Int} {j' : Nat} (hi : i ≤ N) (h2 : sg_g τ 2 16 = A.1) (h0 : 0 ≤ b ∧ A.1 ≤ 200) (hj : jO τ A b n h) (hb : n = b) (eP : pWordE c E n i τ = some (i', τ', q)) (eF : aArgs t E' n i A = some (j', A', q')) (hT : cTc A' b n) : q = n ∧ jQ τ' A' b n (h + 1) := by
  unfold pWordE at eP
  unfold aArgs at eF
  have bs := b_sg hB hi (ch := 41) (by decide)
  by_cases ck : tK c i = 41
  · rw [if_pos ck] at eP
    rw [if_pos (bs.mpr ck)] at eF
    simp only at eP
    rw [if_pos ck] at eP
    cases eP
    cases eF
    refine ⟨rfl, ?_⟩
    have := jQ_c hj hT h2 h0 (if1 _)
    rw [← hb] at this ⊢
    exact this
  · rw [if_neg ck] at eP
    rw [if_neg (fun z => ck (bs.mp z))] at eF
    split at eP
    · cases eP
    rename_i i1 τ1 he
    split at eP
    rotate_left
    · cases eP
    cases eP
    unfold aLst at eF
    split at eF
    · cases eF
    rename_i j1 A1 he'
    cases eF
    obtain ⟨o, s, l⟩ := j_lst hB hE 201 _ _ _ _ _ _ _ _ hi h2 h0 hj (by have := hj.1; omega) (Nat.le_refl _) he he'
    refine ⟨rfl, ?_⟩
    have := jQ_c o hT s ⟨h0.1, l⟩ (if1 _)
    rw [← hb] at this ⊢
    exact this
theorem jF_rw (hB : tkB c t N) {E : pF} {E' : aF} (hE : cBq c t N h E E') {i : Nat} {τ : sg_S} {A : aT} {i' : Nat} {τ' : sg_S} {A' : aT} {q : Int} (hi : i + 1 ≤ N) (h2 : sg_g τ 2 16 = A.1) (h0 : 0 ≤ A.1 ∧ A.1 ≤ 200) (eP : pRw c E i τ = some (i', τ', q)) (eF : aRw t E' i A = some (i', A', q)) (hT : cTc A' A.1 q) : jQ τ' A' A.1 q (h + 1) := by
  unfold pRw at eP
  split at eP
  · cases eP
  rename_i i1 τ1 k hc
  obtain ⟨k1, k2, k3, k4, k5, k6, k7⟩ := jO_new (kd := 14) (p := t.2.2 i) (w := t.2.1 i) (h := h) (jCq_0 τ A) (Int.le_refl _) h2 h0.1 hc
  subst k1
  subst k2
  split at eP
  · cases eP
  rename_i i2 τ2 he
  split at eP
  rotate_left
  · cases eP
  cases eP
  unfold aRw at eF
  split at eF
  · cases eF
  rename_i A1 n hm
  cases mk_e hm
  unfold aLst at eF
  split at eF
  · cases eF
  rename_i j1 A2 he'
  cases eF
  have o1 := jO_r k7 (τ' := sx_put τ1 3 200 A.1 279) (fun k => ⟨sxp_c _ _ _ _ _ _ _ (by decide), sxp_c _ _ _ _ _ _ _ (by decide)⟩)
  obtain ⟨o, s, l⟩ := j_lst hB hE 201 _ _ _ _ _ _ _ _ hi (by rw [sxp_c _ _ _ _ _ _ _ (by decide)]; simp only [aNew_1]; exact k3) (by simp only [aNew_1]; omega) o1 (by simp only [aNew_1]; omega) (Nat.le_refl _) he he'
  exact jQ_c o hT s ⟨h0.1, l⟩ (if1 _)
theorem jF_sharp (hB : tkB c t N) {U : pF} {U' : aF} (hU : cBq c t N h U U') {i : Nat} {τ : sg_S} {A A1 A2 : aT} {i1 i2 j2 : Nat} {τ1 τ2 : sg_S} {k n r r' : Int} (hi : i + 1 ≤ N) (h2 : sg_g τ 2 16 = A.1) (h0 : 0 ≤ A.1 ∧ A.1 ≤ 200) (hc : pCreate c i τ = some (i1, τ1, k)) (hs : U i1 τ1 = some (i2, τ2, r)) (hm : aMk t i A 11 = some (A1, n)) (hf : U' (i + 1) A1 = some (j2, A2, r')) (hT : cTc (aKid A2 n r') A.1 n) : k = n ∧ jQ (pClose (pAttach τ2 k r) k k) (aKid A2 n r') A.1 n (h + 1) := by
  cases mk_e hm
  obtain ⟨k1, k2, k3, k4, k5, k6, k7⟩ := jO_new (kd := 11) (p := t.2.2 i) (w := t.2.1 i) (h := h) (jCq_0 τ A) (Int.le_refl _) h2 h0.1 hc
  subst k1
  subst k2
  obtain ⟨⟨x1, x2, x3, x4, x5, x6⟩, -, -, o2, s2⟩ := j_part hU hi (by simp only [aNew_1]; exact k3) (by simp only [aNew_1]; omega) k7 hs hf
  subst x1
  subst x2
  exact ⟨rfl, jQ_c o2 hT (by simp only [aKid_1]; exact s2) (by simp only [aKid_1]; omega) (if1 _)⟩
theorem jF_word (hB : tkB c t N) {w : Bool} {E : pF} {E' : aF} {H : Nat} (gE : gF E') (tE : tF E') (hE : w = true → cBq c t N h E E' ∧ h + 1 ≤ H) {i : Nat} {τ : sg_S} {A : aT} {i' : Nat} {τ' : sg_S} {A' : aT} {q : Int} (hi : i ≤ N) (hk : tK c i = 258 ∨ 267 ≤ tK c i ∧ tK c i ≤ 278) (h2 : sg_g τ 2 16 = A.1) (h0 : 0 ≤ A.1 ∧ A.1 ≤ 200) (eP : pWord c w E i τ = some (i', τ', q)) (eF : aWrd t w E' i A = some (i', A', q)) : jQ τ' A' A.1 q H := by
  have hT := tF_wrd gE tE _ _ _ _ _ eF h0
  have i1N := nx_ok hB hi (show tK c i ≤ 255 ∨ tK c i = 257 ∨ tK c i = 258 ∨ 261 ≤ tK c i by omega)
  have bs := b_s hB hi
  have ba := b_act hB hi (bs.2.2.1.mpr (by omega))
  have bn := b_nm hB hi
  have bp := b_sg hB i1N (ch := 40) (by decide)
  unfold pWord at eP
  split at eP
  · cases eP
  rename_i i1 τ1 k hc
  unfold aWrd at eF
  by_cases c258 : tK c i = 258
  · rw [ba.1, if_pos (by rw [if_neg (by omega)]), if_pos (bn.mpr c258)] at eF
    by_cases c40 : tK c (i + 1) = 40
    · obtain ⟨k1, k2, k3, k4, k5, k6, k7⟩ := jO_new (kd := 13) (p := t.2.2 i) (w := t.2.1 i) (h := h) (jCq_0 τ A) (Int.le_refl _) h2 h0.1 hc
      subst k1
      subst k2
      rw [if_neg (fun z => z.2 c40), if_pos c40] at eP
      rw [if_pos (bp.mpr c40)] at eF
      split at eP
      rotate_left
      · cases eP
      rename_i hw
      obtain ⟨hE1, hE2⟩ := hE hw
      split at eF
      · cases eF
      rename_i A1 n hm
      cases mk_e hm
      rw [if_pos hw] at eF
      have o1 := jO_r k7 (τ' := sx_put τ1 3 200 A.1 280) (fun k => ⟨sxp_c _ _ _ _ _ _ _ (by decide), sxp_c _ _ _ _ _ _ _ (by decide)⟩)
      have qn : q = A.1 := by
        unfold pWordE at eP
        split at eP
        · cases eP
        · split at eP
          · cases eP; rfl
          · cases eP
      rw [qn] at hT
      obtain ⟨y1, y2⟩ := j_args hB hE1 (nx_ok hB i1N (by omega)) (by rw [sxp_c _ _ _ _ _ _ _ (by decide)]; simp only [aNew_1]; exact k3) (by simp only [aNew_1]; omega) o1 rfl eP eF hT
      rw [y1]
      exact jQ_m y2 hE2
    · obtain ⟨k1, k2, k3, k4, k5, k6, k7⟩ := jO_new (kd := 1) (p := t.2.2 i) (w := t.2.1 i) (h := h) (jCq_0 τ A) (Int.le_refl _) h2 h0.1 hc
      subst k1
      subst k2
      rw [if_pos ⟨c258, c40⟩] at eP
      rw [if_neg (fun z => c40 (bp.mp z))] at eF
      split at eF
      · cases eF
      rename_i A1 n hm
      cases mk_e hm
      cases eP
      cases eF
      exact jQ_l k7 hT k5.1 (by rw [k5.2]; simp only [aNew_1]; omega) (by simp only [aNew, aU_e]) (by simp only [aNew, aU_e]; omega)
  · obtain ⟨k1, k2, k3, k4, k5, k6, k7⟩ := jO_new (kd := v_actOf (t.2.1 i)) (p := t.2.2 i) (w := t.2.1 i) (h := h) (jCq_0 τ A) (Int.le_refl _) h2 h0.1 hc
    subst k1
    subst k2
    rw [if_neg (fun z => c258 z.1)] at eP
    rw [if_neg (by rw [ba.1, if_pos (by omega)]; omega)] at eF
    split at eP
    rotate_left
    · cases eP
    rename_i c40
    split at eP
    rotate_left
    · cases eP
    rename_i hw
    obtain ⟨hE1, hE2⟩ := hE hw
    split at eF
    · cases eF
    rename_i A1 n hm
    cases mk_e hm
    rw [if_pos (bp.mpr c40), if_pos hw] at eF
    have qn : q = A.1 := by
      unfold pWordE at eP
      split at eP
      · cases eP
      · split at eP
        · cases eP; rfl
        · cases eP
    rw [qn] at hT
    obtain ⟨y1, y2⟩ := j_args hB hE1 (nx_ok hB i1N (by omega)) (by simp only [aNew_1]; exact k3) (by simp only [aNew_1]; omega) k7 rfl eP eF hT
    rw [y1]
    exact jQ_m y2 hE2
end JRS
/-! Ranges and levels: { }, all levels. -/
section JSS
variable {c : tkC} {t : aK} {N h : Nat}
theorem j_genL (hB : tkB c t N) {E : pF} {E' : aF} (hE : cBq c t N h E E') {b n : Int} : ∀ (m : Nat) (i : Nat) (τ : sg_S) (A : aT) (i1 : Nat) (τ1 : sg_S) (j1 : Nat) (A1 : aT), i ≤ N → sg_g τ 2 16 = A.1 → 0 ≤ b ∧ A.1 ≤ 200 → jO τ A b n h → (A.2.2.2.2.1 n).length = 1 + (A.2.2.2.2.2 n).length → pGenL c E n (m + 1) i τ = some (i1, τ1) → aGenL t E' n m i A = some (j1, A1) → j1 = i1 ∧ i1 ≤ N ∧ jO τ1 A1 b n h ∧ sg_g τ1 2 16 = A1.1 ∧ A1.1 ≤ 200
  | 0, i, τ, A, i1, τ1, j1, A1, hi, h2, h0, hj, hkl, eP, eF => by unfold aGenL at eF; cases eF
  | m + 1, i, τ, A, i1, τ1, j1, A1, hi, h2, h0, hj, hkl, eP, eF => by
    unfold pGenL at eP
    unfold aGenL at eF
    split at eP
    rotate_left
    · cases eP
    rename_i hk1
    split at eP
    rotate_left
    · cases eP
    rename_i hk2
    split at eP
    · cases eP
    rename_i i2 τ2 r he
    split at eF
    rotate_left
    · cases eF
    split at eF
    rotate_left
    · cases eF
    split at eF
    · cases eF
    rename_i j2 A2 r' he'
    have nA := hj.1
    have o1 : jO τ (aGn A n (t.2.1 i) (t.2.2 i)) b n h := jO_x hj (fun _ => ⟨rfl, rfl⟩) rfl (fun x hx => by simp only [aGn, aU_n _ _ hx, and_self]) (fun _ hx => Or.inl hx)
    have z : 0 ≤ (aGn A n (t.2.1 i) (t.2.2 i)).1 ∧ (aGn A n (t.2.1 i) (t.2.2 i)).1 ≤ 200 := by simp only [aGn]; omega
    have g := hE.2.1 _ _ _ _ _ he' z
    obtain ⟨⟨x1, x2, x3, x4, x5, x6⟩, o2, o3, -, -⟩ := j_part hE (nx_ok hB (nx_ok hB hi (by omega)) (by omega)) (show sg_g τ 2 16 = (aGn A n (t.2.1 i) (t.2.2 i)).1 from h2) (by simp only [aGn]; omega) o1 he he'
    subst x1
    subst x2
    have kn := (g.1.2 n (by simp only [aGn]; omega))
    have kl : ((aKid A2 n r').2.2.2.2.1 n).length = 1 + ((aKid A2 n r').2.2.2.2.2 n).length := by
      simp only [aKid, aU_e, List.length_append, List.length_cons, List.length_nil]
      rw [kn.2.2.2.1, kn.2.2.2.2]
      simp only [aGn, aU_e, List.length_append, List.length_cons, List.length_nil]
      omega
    let τ3 := sx_put (pAttach (sx_put (sx_putl τ2 18 200 r' (tW c i)) 15 200 r' (tPl c i)) n r') 13 200 n (5 - ((m + 1 : Nat) : Int))
    have e3 : ∀ v, ∀ j, sg_g (sx_put (pAttach (sx_put (sx_putl τ2 18 200 r' (tW c i)) 15 200 r' (tPl c i)) n r') 13 200 n v) 11 j = sg_g τ2 11 j ∧ sg_g (sx_put (pAttach (sx_put (sx_putl τ2 18 200 r' (tW c i)) 15 200 r' (tPl c i)) n r') 13 200 n v) 12 j = sg_g τ2 12 j ∧ sg_g (sx_put (pAttach (sx_put (sx_putl τ2 18 200 r' (tW c i)) 15 200 r' (tPl c i)) n r') 13 200 n v) 2 16 = sg_g τ2 2 16 := fun v j => by
      obtain ⟨y1, y2, y3⟩ := p_at11 (sx_put (sx_putl τ2 18 200 r' (tW c i)) 15 200 r' (tPl c i)) n r' j
      refine ⟨?_, ?_, ?_⟩
      · rw [sxp_c _ _ _ _ _ _ _ (by decide), y1, sxp_c _ _ _ _ _ _ _ (by decide), sxl_c]
      · rw [sxp_c _ _ _ _ _ _ _ (by decide), y2, sxp_c _ _ _ _ _ _ _ (by decide), sxl_c]
      · rw [sxp_c _ _ _ _ _ _ _ (by decide), y3, sxp_c _ _ _ _ _ _ _ (by decide), sxl_c]
    have o4 := jO_k o2 o3
    have bs := b_sg hB x3 (ch := 44) (by decide)
    by_cases ck : tK c j2 = 44
    · rw [if_pos ck] at eP
      rw [if_pos ⟨bs.mpr ck, kl⟩] at eF
      exact j_genL hB hE m _ _ _ _ _ _ _ (nx_ok hB x3 (by omega)) (by rw [(e3 _ 0).2.2]; exact x4) (by simp only [aKid_1]; omega) (jO_r o4 (fun j => ⟨(e3 _ j).1, (e3 _ j).2.1⟩)) kl eP eF
    · rw [if_neg ck] at eP
      rw [if_neg (fun z => ck (bs.mp z.1))] at eF
      cases eP
      cases eF
      exact ⟨rfl, x3, jO_r o4 (fun j => ⟨(e3 _ j).1, (e3 _ j).2.1⟩), by rw [(e3 _ 0).2.2]; exact x4, by simp only [aKid_1]; exact x6⟩
theorem jF_each (hB : tkB c t N) {E : pF} {E' : aF} (hE : cBq c t N h E E') {i : Nat} {τ : sg_S} {A : aT} {i' : Nat} {τ' : sg_S} {A' : aT} {q : Int} (hi : i + 1 ≤ N) (h2 : sg_g τ 2 16 = A.1) (h0 : 0 ≤ A.1 ∧ A.1 ≤ 200) (eP : pEach c E i τ = some (i', τ', q)) (eF : aEach t E' i A = some (i', A', q)) : jQ τ' A' A.1 q (h + 1) := by
  have hT := tF_each hE.2.1 hE.2.2.1 _ _ _ _ _ eF h0
  unfold pEach at eP
  split at eP
  · cases eP
  rename_i i1 τ1 k hc
  obtain ⟨k1, k2, k3, k4, k5, k6, k7⟩ := jO_new (kd := 15) (p := t.2.2 i) (w := t.2.1 i) (h := h) (jCq_0 τ A) (Int.le_refl _) h2 h0.1 hc
  subst k1
  subst k2
  split at eP
  · cases eP
  rename_i i2 τ2 bd he
  split at eP
  rotate_left
  · cases eP
  rename_i hk1
  split at eP
  · cases eP
  rename_i i3 τ3 hg
  unfold aEach at eF
  split at eF
  · cases eF
  rename_i A1 n hm
  cases mk_e hm
  split at eF
  · cases eF
  rename_i j2 A2 bd' he'
  split at eF
  rotate_left
  · cases eF
  have z0 : 0 ≤ (aNew A 15 (t.2.2 i) (t.2.1 i)).1 ∧ (aNew A 15 (t.2.2 i) (t.2.1 i)).1 ≤ 200 := by simp only [aNew_1]; omega
  have g0 := hE.2.1 _ _ _ _ _ he' z0
  have kn := g0.1.2 A.1 (by simp only [aNew_1]; omega)
  obtain ⟨⟨x1, x2, x3, x4, x5, x6⟩, o2, o3, -, -⟩ := j_part hE hi (by simp only [aNew_1]; exact k3) (by simp only [aNew_1]; omega) k7 he he'
  subst x1
  subst x2
  have gl : ((aKid A2 A.1 bd').2.2.2.2.2 A.1).length = 0 := by
    simp only [aKid]; rw [kn.2.2.2.2]; simp only [aNew, aU_e]; rfl
  have kl : ((aKid A2 A.1 bd').2.2.2.2.1 A.1).length = 1 + ((aKid A2 A.1 bd').2.2.2.2.2 A.1).length := by
    rw [gl]
    simp only [aKid, aU_e, List.length_append, List.length_cons, List.length_nil]
    rw [kn.2.2.2.1]; simp only [aNew, aU_e]; rfl
  unfold aGens at eF
  rw [gl] at eF
  split at eF
  · cases eF
  rename_i j3 A3 hg'
  obtain ⟨y1, y2, y3, y4, y5⟩ := j_genL hB hE 4 _ _ _ _ _ _ _ (nx_ok hB x3 (by omega)) (by simp only [aKid_1]; exact x4) (by simp only [aKid_1]; omega) (jO_k o2 o3) kl hg hg'
  subst y1
  have fin : ∀ (i4 : Nat) (τ4 : sg_S) (A4 : aT), jO τ4 A4 A.1 A.1 h → sg_g τ4 2 16 = A4.1 → A4.1 ≤ 200 → pEachE c A.1 bd' i4 τ4 = some (i', τ', q) → A' = A4 → jQ τ' A' A.1 q (h + 1) := fun i4 τ4 A4 w1 w2 w3 w4 w5 => by
    unfold pEachE at w4
    split at w4
    rotate_left
    · cases w4
    cases w4
    subst w5
    have a11 := fun j => p_at11 τ4 A.1 bd' j
    exact jQ_c (jO_r w1 (fun j => ⟨(a11 j).1, (a11 j).2.1⟩)) hT (by rw [(a11 0).2.2]; exact w2) ⟨h0.1, w3⟩ (if1 _)
  unfold aGrd at eF
  have bs := b_sg hB y2 (ch := 124) (by decide)
  by_cases ck : tK c j3 = 124
  · rw [if_pos ck] at eP
    rw [if_pos (bs.mpr ck)] at eF
    split at eP
    · cases eP
    rename_i i4 τ4 g hh
    split at eF
    · cases eF
    rename_i j4 A4 g' hh'
    obtain ⟨⟨z1, z2, z3, z4, z5, z6⟩, p2, p3, -, -⟩ := j_part hE (nx_ok hB y2 (by omega)) y4 ⟨h0.1, y5⟩ y3 hh hh'
    subst z1
    subst z2
    have e3 : ∀ j, sg_g (sx_put (pAttach τ4 A.1 g') 14 200 A.1 g') 11 j = sg_g τ4 11 j ∧ sg_g (sx_put (pAttach τ4 A.1 g') 14 200 A.1 g') 12 j = sg_g τ4 12 j ∧ sg_g (sx_put (pAttach τ4 A.1 g') 14 200 A.1 g') 2 16 = sg_g τ4 2 16 := fun j => by
      obtain ⟨y1, y2, y3⟩ := p_at11 τ4 A.1 g' j
      exact ⟨by rw [sxp_c _ _ _ _ _ _ _ (by decide), y1], by rw [sxp_c _ _ _ _ _ _ _ (by decide), y2], by rw [sxp_c _ _ _ _ _ _ _ (by decide), y3]⟩
    unfold aEnd at eF
    split at eF
    rotate_left
    · cases eF
    have eA : A' = aKid A4 A.1 g' := by cases eF; rfl
    exact fin _ _ _ (jO_r (jO_k p2 p3) (fun j => ⟨(e3 j).1, (e3 j).2.1⟩)) (by rw [(e3 0).2.2]; simp only [aKid_1]; exact z4) (by simp only [aKid_1]; exact z6) eP eA
  · rw [if_neg ck] at eP
    rw [if_neg (fun z => ck (bs.mp z))] at eF
    unfold aEnd at eF
    split at eF
    rotate_left
    · cases eF
    have eA : A' = A3 := by cases eF; rfl
    exact fin _ _ _ y3 y4 y5 eP eA
theorem jF_atm (hB : tkB c t N) {w : Bool} {E : pF} {E' : aF} {H : Nat} (gE : gF E') (tE : tF E') (hE : w = true → cBq c t N h E E' ∧ h + 1 ≤ H) : jF N H (pAtom c w E) (aAtm t w E') := by
  intro i τ A i' τ' A' q hi h2 h0 eP eF
  have hT := tF_atm gE tE _ _ _ _ _ eF h0
  have bs := b_s hB hi
  have b40 := b_sg hB hi (ch := 40) (by decide)
  have b91 := b_sg hB hi (ch := 91) (by decide)
  have b123 := b_sg hB hi (ch := 123) (by decide)
  unfold pAtom at eP
  unfold aAtm at eF
  by_cases c1 : tK c i = 257
  · rw [if_pos c1] at eP
    rw [if_pos (bs.2.1.mpr c1)] at eF
    split at eF
    · cases eF
    rename_i A1 n hm
    cases mk_e hm
    cases eF
    obtain ⟨k1, k2, k3, k4, k5, k6, k7⟩ := jO_new (kd := 0) (p := t.2.2 i) (w := t.2.1 i) (h := H) (jCq_0 τ A) (Int.le_refl _) h2 h0.1 eP
    exact jQ_l k7 hT k5.1 (by rw [k5.2]; simp only [aNew_1]; omega) (by simp only [aNew, aU_e]) (by simp only [aNew, aU_e]; omega)
  · rw [if_neg c1] at eP
    rw [if_neg (fun z => c1 (bs.2.1.mp z))] at eF
    by_cases c2 : tK c i = 258 ∨ 267 ≤ tK c i ∧ tK c i ≤ 278
    · rw [if_pos c2] at eP
      rw [if_pos (bs.2.2.1.mpr (by omega))] at eF
      exact jF_word hB gE tE hE hi c2 h2 h0 eP eF
    · rw [if_neg c2] at eP
      split at eP
      rotate_left
      · cases eP
      rename_i hw
      obtain ⟨hE1, hE2⟩ := hE hw
      by_cases c40 : tK c i = 40
      · rw [if_pos c40] at eP
        rw [if_neg (fun z => by have := bs.2.2.1.mp z; omega), if_pos (b40.mpr c40), if_pos hw] at eF
        unfold pPar at eP
        unfold aPar at eF
        split at eP
        · cases eP
        rename_i i1 τ1 r he
        split at eP
        rotate_left
        · cases eP
        split at eF
        · cases eF
        rename_i j1 A1 r' he'
        split at eF
        rotate_left
        · cases eF
        obtain ⟨⟨x1, x2, x3, x4, x5, x6⟩, -, -, -, q1⟩ := j_call hE1 (nx_ok hB hi (by omega)) h2 h0 he he'
        cases eP
        cases eF
        exact jQ_m q1 (by omega)
      · rw [if_neg c40] at eP
        by_cases c91 : tK c i = 91
        · rw [if_pos c91] at eP
          rw [if_neg (fun z => by have := bs.2.2.1.mp z; omega), if_neg (fun z => c40 (b40.mp z)), if_pos (b91.mpr c91), if_pos hw] at eF
          exact jQ_m (jF_rw hB hE1 (nx_ok hB hi (by omega)) h2 h0 eP eF hT) hE2
        · rw [if_neg c91] at eP
          split at eP
          rotate_left
          · cases eP
          rename_i c123
          rw [if_neg (fun z => by have := bs.2.2.1.mp z; omega), if_neg (fun z => c40 (b40.mp z)), if_neg (fun z => c91 (b91.mp z)), if_pos (b123.mpr c123), if_pos hw] at eF
          exact jQ_m (jF_each hB hE1 (nx_ok hB hi (by omega)) h2 h0 eP eF) hE2
theorem jF_un (hB : tkB c t N) {w : Bool} {E U : pF} {E' U' : aF} {H : Nat} (sE : sF c t N E E') (gE : gF E') (tE : tF E') (gU : gF U') (tU : tF U') (hE : w = true → cBq c t N h E E' ∧ h + 1 ≤ H) (hU : w = true → cBq c t N h U U') : jF N H (pUnL c w E U) (aUn t w E' U') := by
  intro i τ A i' τ' A' q hi h2 h0 eP eF
  have hT := tF_un gE gU tE tU _ _ _ _ _ eF h0
  have bs := b_sg hB hi (ch := 35) (by decide)
  unfold pUnL pUn at eP
  unfold aUn at eF
  by_cases ck : tK c i = 35
  · rw [if_pos ck] at eP
    rw [if_pos (bs.mpr ck)] at eF
    split at eP
    rotate_left
    · cases eP
    rename_i hw
    rw [if_pos hw] at eF
    split at eP
    · cases eP
    rename_i i1 τ1 k hc
    split at eP
    · cases eP
    rename_i i2 τ2 r hs
    split at eF
    · cases eF
    rename_i A1 n hm
    split at eF
    · cases eF
    rename_i j2 A2 r' hf
    cases eP
    have en : n = q := by cases eF; rfl
    subst en
    have eA : A' = aKid A2 n r' := by cases eF; rfl
    subst eA
    obtain ⟨-, y⟩ := jF_sharp hB (hU hw) (nx_ok hB hi (by omega)) h2 h0 hc hs hm hf hT
    exact jQ_m y (hE hw).2
  · rw [if_neg ck] at eP
    rw [if_neg (fun z => ck (bs.mp z))] at eF
    unfold pItem at eP
    unfold aItm at eF
    split at eP
    · cases eP
    rename_i i1 τ1 l e1
    split at eF
    · cases eF
    rename_i j1 A1 l' e2
    unfold aBeh at eF
    have cA : cBq c t N H (pAtom c w E) (aAtm t w E') := ⟨sF_atm hB sE gE, gF_atm gE, tF_atm gE tE, jF_atm hB gE tE hE⟩
    exact jF_then cA (G := pItL c w E 201) (G' := fun l i A => aBehL t w E' (201 - A.1).toNat l i A) (fun l i τ A b i' τ' A' q x1 x2 x3 x4 x5 x6 x7 => jL_itL hB (fun hw => cB_m (hE hw).1 (by have := (hE hw).2; omega)) 201 _ l i τ A b i' τ' A' q x1 x2 x3 x4 x5 (by omega) (Nat.le_refl _) x6 x7) hi h2 h0 e1 e2 eP eF
theorem q_C (hB : tkB c t N) : ∀ i, i ≤ N → ((tK c i = 60 ∨ tK c i = 61) ∧ ∃ kd, aqC t i = some kd ∧ (4 ≤ kd ∧ kd ≤ 10)) ∨ (¬ (tK c i = 60 ∨ tK c i = 61) ∧ aqC t i = none) := by
  intro i hi
  have b60 := b_sg hB hi (ch := 60) (by decide)
  have b61 := b_sg hB hi (ch := 61) (by decide)
  by_cases c60 : tK c i = 60
  · left
    refine ⟨Or.inl c60, 4, ?_, by omega⟩
    unfold aqC
    rw [if_pos (b60.mpr c60)]
  · by_cases c61 : tK c i = 61
    · left
      refine ⟨Or.inr c61, 5, ?_, by omega⟩
      unfold aqC
      rw [if_neg (fun z => c60 (b60.mp z)), if_pos (b61.mpr c61)]
    · right
      refine ⟨by omega, ?_⟩
      unfold aqC
      rw [if_neg (fun z => c60 (b60.mp z)), if_neg (fun z => c61 (b61.mp z))]
theorem jF_ex (hB : tkB c t N) {w : Bool} {E U : pF} {E' U' : aF} {H : Nat} (sE : sF c t N E E') (gE : gF E') (tE : tF E') (sU : sF c t N U U') (gU : gF U') (tU : tF U') (hE : w = true → cBq c t N h E E' ∧ h + 1 ≤ H) (hU : w = true → cBq c t N h U U') : jF N H (pExpr c w E (pCmL c w E U)) (aEx t w E' U') := by
  intro i τ A i' τ' A' q hi h2 h0 eP eF
  have bl := b_let hB hi
  have bi := b_if hB hi
  unfold pExpr at eP
  unfold aEx at eF
  by_cases c1 : tK c i = 262
  · rw [if_pos c1] at eP
    rw [if_pos (bl.mpr c1)] at eF
    split at eP
    rotate_left
    · cases eP
    rename_i hw
    rw [if_pos hw] at eF
    exact jQ_m (jF_let (hE hw).1 hB hi c1 h2 h0 eP eF) (hE hw).2
  · rw [if_neg c1] at eP
    rw [if_neg (fun z => c1 (bl.mp z))] at eF
    by_cases c2 : tK c i = 264
    · rw [if_pos c2] at eP
      rw [if_pos (bi.mpr c2)] at eF
      split at eP
      rotate_left
      · cases eP
      rename_i hw
      rw [if_pos hw] at eF
      exact jQ_m (jF_if (hE hw).1 hB hi c2 h2 h0 eP eF) (hE hw).2
    · rw [if_neg c2] at eP
      rw [if_neg (fun z => c2 (bi.mp z))] at eF
      have u : cBq c t N H (pUnL c w E U) (aUn t w E' U') := ⟨sF_un hB sE gE sU gU, gF_un gE gU, tF_un gE gU tE tU, jF_un hB sE gE tE gU tU hE hU⟩
      have p : cBq c t N H (pRow c pqP (pUnL c w E U)) (aRow t (aqP t) (aUn t w E' U')) := ⟨sF_row hB u.1 u.2.1 (q_P hB), gF_row u.2.1, tF_row qF_P u.2.1 u.2.2.1, jF_row hB u (q_P hB)⟩
      have s : cBq c t N H (pRow c pqS (pRow c pqP (pUnL c w E U))) (aRow t (aqS t) (aRow t (aqP t) (aUn t w E' U'))) := ⟨sF_row hB p.1 p.2.1 (q_S hB), gF_row p.2.1, tF_row qF_S p.2.1 p.2.2.1, jF_row hB p (q_S hB)⟩
      exact jF_cmp hB s (q_C hB) _ _ _ _ _ _ _ hi h2 h0 eP eF
/-- all levels -/
theorem jF_lv (hB : tkB c t N) : ∀ f, jF N f (pLv c f).1 (aLv t f).1 ∧ jF N f (pLv c f).2 (aLv t f).2
  | 0 => by
    have sn : sF c t N (fun _ _ => none) (fun _ _ => none) := fun _ _ _ _ _ _ => Or.inl ⟨rfl, rfl⟩
    exact ⟨jF_ex (h := 0) hB sn gF_n tF_n sn gF_n tF_n (fun z => by cases z) (fun z => by cases z), jF_un (h := 0) (U := fun _ _ => none) hB sn gF_n tF_n gF_n tF_n (fun z => by cases z) (fun z => by cases z)⟩
  | f + 1 => by
    have s := sF_lv hB f
    have g := gF_lv (t := t) f
    have tt := tF_lv (t := t) f
    have j := jF_lv hB f
    have cE : cBq c t N f (pLv c f).1 (aLv t f).1 := ⟨s.1, g.1, tt.1, j.1⟩
    have cU : cBq c t N f (pLv c f).2 (aLv t f).2 := ⟨s.2, g.2, tt.2, j.2⟩
    exact ⟨jF_ex hB s.1 g.1 tt.1 s.2 g.2 tt.2 (fun _ => ⟨cE, Nat.le_refl _⟩) (fun _ => cU), jF_un hB s.1 g.1 tt.1 g.2 tt.2 (fun _ => ⟨cE, Nat.le_refl _⟩) (fun _ => cU)⟩
end JSS
/-! Ranges and levels of a whole PROGRAM. -/
section JTS
variable {c : tkC} {t : aK} {N : Nat}
/-- roots of DEFS: levels, and one behind the other -/
def rD (τ : sg_S) (A : aT) (D : List aDf) : Prop := (∀ (j : Nat) (x : aDf), D[j]? = some x → hNq A 12 x.2.2.2 ∧ 0 ≤ x.2.2.2 ∧ x.2.2.2 < A.1) ∧ ∀ (j j' : Nat) (x x' : aDf), j < j' → D[j]? = some x → D[j']? = some x' → sg_g τ 12 x.2.2.2 < sg_g τ 11 x'.2.2.2
/-- what is read after all that stands -/
theorem jCq_E {τ τ' : sg_S} {A A' : aT} {q : Int} {D : List aDf} (hj : jCq τ A 0) (hr : rD τ A D) (h0 : 0 ≤ A.1) (hf : fB τ τ' A.1) (hg : gr A A') (hq : jQ τ' A' A.1 q 12) : jCq τ' A' 0 ∧ rD τ' A' D ∧ (∀ (j : Nat) (x : aDf), D[j]? = some x → sg_g τ' 12 x.2.2.2 < sg_g τ' 11 q) := by
  obtain ⟨q1, q2, q3, q4⟩ := hq
  have r : ∀ k, k < A.1 → sg_g τ' 11 k = sg_g τ 11 k ∧ sg_g τ' 12 k = sg_g τ 12 k := fun k hk => ⟨(hf.1 11 k (by decide) hk).1, (hf.1 12 k (by decide) hk).1⟩
  have eq : ∀ k, 0 ≤ k → k < A.1 → ∀ x, sg_g τ 11 k ≤ x → x ≤ sg_g τ 12 k → A'.2.1 x = A.2.1 x ∧ A'.2.2.2.2.1 x = A.2.2.2.2.1 x ∧ A'.2.2.2.2.2 x = A.2.2.2.2.2 x := fun k a d x _ p => by
    obtain ⟨g1, g2, g3, g4, g5⟩ := hg.2 x (by have := (hj k a d).1.2; omega)
    exact ⟨g1, g4, g5⟩
  have gl := hg.1
  refine ⟨fun k a d => ?_, ⟨fun j x hx => ?_, fun j j' x x' hjj hx hx' => ?_⟩, fun j x hx => ?_⟩
  · by_cases ck : k < A.1
    · exact jN_x (hj k a ck) (r k ck).1 (r k ck).2 gl (Int.le_refl _) (eq k a ck)
    · exact jN_x (q1 k (by omega) d) rfl rfl (Int.le_refl _) h0 (fun _ _ _ => ⟨rfl, rfl, rfl⟩)
  · obtain ⟨y1, y2, y3⟩ := hr.1 j x hx
    exact ⟨hNq_x y1 (hj _ y2 y3) (eq _ y2 y3), y2, by omega⟩
  · have y := hr.1 j x hx
    have y' := hr.1 j' x' hx'
    rw [(r _ y.2.2).2, (r _ y'.2.2).1]
    exact hr.2 j j' x x' hjj hx hx'
  · obtain ⟨y1, y2, y3⟩ := hr.1 j x hx
    rw [(r _ y3).2, q3]
    exact (hj _ y2 y3).1.2
theorem jCq_r {τ τ' : sg_S} {A : aT} {D : List aDf} (hj : jCq τ A 0) (hr : rD τ A D) (h : ∀ k, sg_g τ' 11 k = sg_g τ 11 k ∧ sg_g τ' 12 k = sg_g τ 12 k) : jCq τ' A 0 ∧ rD τ' A D := ⟨fun k a d => jN_x (hj k a d) (h k).1 (h k).2 (Int.le_refl _) (Int.le_refl _) (fun _ _ _ => ⟨rfl, rfl, rfl⟩), hr.1, fun j j' x x' a b d => by rw [(h _).2, (h _).1]; exact hr.2 j j' x x' a b d⟩
theorem j_df1 (hB : tkB c t N) {E : pF} (hE : cBq c t N 12 E (aLv t 12).1) {D : List aDf} {i i1 : Nat} {τ τ1 : sg_S} {A A1 : aT} {x : aDf} (hi : i ≤ N) (hk : tK c i = 261) (hd : D.length < 12) (h2 : sg_g τ 2 16 = A.1) (h0 : 0 ≤ A.1 ∧ A.1 ≤ 200) (h19 : sg_g τ 19 8 = D.length) (hj : jCq τ A 0) (hr : rD τ A D) (eP : pDf1 c E (D.length : Int) i τ = some (i1, τ1)) (eF : aDf1 t N i A = some (i1, A1, x)) : jCq τ1 A1 0 ∧ rD τ1 A1 (D ++ [x]) := by
  unfold pDf1 at eP
  split at eP
  · cases eP
  rename_i i2 τ2 e1
  unfold pTitle at e1
  rw [if_neg (by omega)] at e1
  split at e1
  rotate_left
  · cases e1
  rename_i k1
  split at e1
  rotate_left
  · cases e1
  rename_i k2
  cases e1
  have n1 := nx_ok hB hi (by omega)
  have n2 := nx_ok hB n1 (by omega)
  have n3 := nx_ok hB n2 (by omega)
  have d12 : 0 ≤ (D.length : Int) ∧ (D.length : Int) < 12 := by omega
  have w0 : ∀ (a : Nat) (k : Int), ¬ a = 19 → ¬ a = 21 → ¬ a = 23 → sg_g (pDAdd τ (tW c (i + 1)) (tPl c (i + 1))) a k = sg_g τ a k := fun a k x1 x2 x3 => by
    unfold pDAdd
    rw [sg_gw_c _ _ _ _ _ _ x1, sxp_c _ _ _ _ _ _ _ x3, sxp_c _ _ _ _ _ _ _ x2, sxl_c]
  have p0 : cP (pDAdd τ (tW c (i + 1)) (tPl c (i + 1))) D.length [] := by
    refine ⟨?_, by simp, fun j y hy => by simp at hy⟩
    unfold pDAdd
    rw [h19, sg_gw_c _ _ _ _ _ _ (by decide), xp_in d12, sg_gw_e _ _ _ _ (by decide)]
    rfl
  unfold aDf1 at eF
  split at eF
  rotate_left
  · cases eF
  split at eF
  rotate_left
  · cases eF
  split at eF
  · cases eF
  rename_i j1 ps ea
  split at eF
  rotate_left
  · cases eF
  rename_i s41
  split at eF
  rotate_left
  · cases eF
  split at eF
  · cases eF
  rename_i j2 A2 q he'
  split at eF
  rotate_left
  · cases eF
  have pp : ∀ i3 τ3, pPars c (D.length : Int) (i + 1 + 1 + 1) (pDAdd τ (tW c (i + 1)) (tPl c (i + 1))) = some (i3, τ3) → i3 = j1 + 1 ∧ j1 + 1 ≤ N ∧ ∀ (a : Nat) (k : Int), a ≤ 18 → sg_g τ3 a k = sg_g τ a k := fun i3 τ3 hp => by
    unfold pPars pParE at hp
    unfold aPas at ea
    have bs := b_sg hB n3 (ch := 41) (by decide)
    by_cases c41 : tK c (i + 1 + 1 + 1) = 41
    · rw [if_pos c41] at hp
      rw [if_pos (bs.mpr c41)] at ea
      cases ea
      simp only at hp
      rw [if_pos c41] at hp
      have b3 := nx_ok hB n3 (by omega)
      cases hp
      exact ⟨rfl, b3, fun a k ha => w0 a k (by omega) (by omega) (by omega)⟩
    · rw [if_neg c41] at hp
      rw [if_neg (fun z => c41 (bs.mp z))] at ea
      rcases pa_ok hB hd 6 [] (i + 1 + 1 + 1) (pDAdd τ (tW c (i + 1)) (tPl c (i + 1))) n3 p0 rfl with ⟨x1, -⟩ | ⟨i5, τ5, ps5, x1, x2, x3, x4, x5, x6⟩
      · rw [x1] at hp; cases hp
      · rw [x1] at hp
        rw [x2] at ea
        obtain ⟨e5, -⟩ : i5 = j1 ∧ ps5 = ps := by cases ea; exact ⟨rfl, rfl⟩
        subst e5
        simp only at hp
        by_cases c5 : tK c i5 = 41
        rotate_left
        · rw [if_neg c5] at hp; cases hp
        rw [if_pos c5] at hp
        have b5 := nx_ok hB x3 (by omega)
        cases hp
        exact ⟨rfl, b5, fun a k ha => by rw [(x5.1 a k ha).1]; exact w0 a k (by omega) (by omega) (by omega)⟩
  split at eP
  · cases eP
  rename_i i3 τ3 e2
  obtain ⟨y1, y2, y3⟩ := pp i3 τ3 e2
  subst y1
  unfold pMean at eP
  split at eP
  rotate_left
  · cases eP
  rename_i c61
  split at eP
  · cases eP
  rename_i i6 τ6 r he
  split at eP
  rotate_left
  · cases eP
  cases eP
  obtain ⟨⟨z1, z2, z3, z4, z5, z6⟩, f6, g6, t6, q6⟩ := j_call hE (nx_ok hB y2 (by omega)) (by rw [y3 2 16 (by decide)]; exact h2) h0 he he'
  subst z2
  have eA : A1 = A2 := by cases eF; rfl
  have ex : x.2.2.2 = q := by cases eF; rfl
  subst eA
  obtain ⟨jc3, rd3⟩ := jCq_r hj hr (τ' := τ3) (fun k => ⟨y3 11 k (by decide), y3 12 k (by decide)⟩)
  obtain ⟨u1, u2, u3⟩ := jCq_E jc3 rd3 h0.1 f6 g6 q6
  have rr : ∀ k, sg_g (sx_put τ6 22 12 (D.length : Int) q) 11 k = sg_g τ6 11 k ∧ sg_g (sx_put τ6 22 12 (D.length : Int) q) 12 k = sg_g τ6 12 k := fun k => ⟨sxp_c _ _ _ _ _ _ _ (by decide), sxp_c _ _ _ _ _ _ _ (by decide)⟩
  obtain ⟨v1, v2⟩ := jCq_r u1 u2 rr
  have qb := q6.2.1
  refine ⟨v1, fun j y hy => ?_, fun j j' y y' hjj hy hy' => ?_⟩
  · by_cases cj : j < D.length
    · rw [List.getElem?_append_left cj] at hy; exact v2.1 j y hy
    · have := gE_l hy
      rw [List.length_append, List.length_cons, List.length_nil] at this
      have ej : j = D.length := by omega
      subst ej
      rw [List.getElem?_append_right (Nat.le_refl _), Nat.sub_self] at hy
      simp at hy
      subst hy
      rw [ex]
      exact ⟨q6.2.2.2, by omega, by omega⟩
  · have l' := gE_l hy'
    rw [List.length_append, List.length_cons, List.length_nil] at l'
    have cj : j < D.length := by omega
    rw [List.getElem?_append_left cj] at hy
    by_cases cj' : j' < D.length
    · rw [List.getElem?_append_left cj'] at hy'; exact v2.2 j j' y y' hjj hy hy'
    · have ej : j' = D.length := by omega
      subst ej
      rw [List.getElem?_append_right (Nat.le_refl _), Nat.sub_self] at hy'
      simp at hy'
      subst hy'
      rw [ex, (rr _).2, (rr _).1]
      exact u3 j y hy
theorem j_dfs (hB : tkB c t N) {E : pF} (hE : cBq c t N 12 E (aLv t 12).1) : ∀ (m : Nat) (D : List aDf) (i : Nat) (τ : sg_S) (A : aT) (Rs : List Int) (i' : Nat) (τ' : sg_S) (A' : aT) (D' : List aDf), i ≤ N → cS τ A 0 Rs → cD2 τ D → D.length + m = 12 → jCq τ A 0 → rD τ A D → pDefs c E (m + 1) i τ = some (i', τ') → aDfs t N m D i A = some (i', A', D') → i' ≤ N ∧ sg_g τ' 2 16 = A'.1 ∧ (0 ≤ A'.1 ∧ A'.1 ≤ 200) ∧ jCq τ' A' 0 ∧ rD τ' A' D'
  | 0, D, i, τ, A, Rs, i', τ', A', D', hi, hS, hD, hm, hj, hr, eP, eF => by
    have hs := hS.2.1
    have bd := b_def hB hi
    unfold pDefs at eP
    unfold aDfs at eF
    by_cases ck : tK c i = 261
    · rw [if_pos (bd.mpr ck)] at eF; cases eF
    · rw [if_neg ck] at eP
      rw [if_neg (fun z => ck (bd.mp z))] at eF
      cases eP
      cases eF
      exact ⟨hi, hS.1, by omega, hj, hr⟩
  | m + 1, D, i, τ, A, Rs, i', τ', A', D', hi, hS, hD, hm, hj, hr, eP, eF => by
    have hs := hS.2.1
    have bd := b_def hB hi
    unfold pDefs at eP
    unfold aDfs at eF
    by_cases ck : tK c i = 261
    · rw [if_pos ck] at eP
      rw [if_pos (bd.mpr ck)] at eF
      have dl : (12 : Int) - ((m + 1 : Nat) : Int) = D.length := by omega
      split at eF
      · cases eF
      rename_i i1 A1 x e1
      have pe : ∃ i3 τ3, pDf1 c E (D.length : Int) i τ = some (i3, τ3) ∧ pDefs c E (m + 1) i3 τ3 = some (i', τ') := by
        unfold pDf1
        rw [← dl]
        split at eP
        · cases eP
        rename_i i5 τ5 u1
        split at eP
        · cases eP
        rename_i i6 τ6 u2
        split at eP
        · cases eP
        rename_i i7 τ7 u3
        refine ⟨i7, τ7, ?_, eP⟩
        first
          | exact u3
          | (rw [u1]; simp only; rw [u2]; exact u3)
      obtain ⟨i3, τ3, p1, p2⟩ := pe
      rcases df_ok hB hE.1 hi ck (by omega) hS hD with ⟨u, -⟩ | ⟨i4, τ4, A4, x4, u1, u2, u3, u4, u5⟩
      · rw [u] at p1; cases p1
      · rw [u1] at p1
        rw [u2] at e1
        cases p1
        cases e1
        obtain ⟨v1, v2⟩ := j_df1 hB hE hi ck (by omega) hS.1 (by omega) hD.1 hj hr u1 u2
        exact j_dfs hB hE m _ _ _ _ _ _ _ _ _ u3 u4 u5 (by rw [List.length_append, List.length_cons, List.length_nil]; omega) v1 v2 p2 eF
    · rw [if_neg ck] at eP
      rw [if_neg (fun z => ck (bd.mp z))] at eF
      cases eP
      cases eF
      exact ⟨hi, hS.1, by omega, hj, hr⟩
/-- all that is kept of a PROGRAM that is read -/
def jPg (τ : sg_S) (A : aT) (D : List aDf) (q : Int) : Prop := jCq τ A 0 ∧ rD τ A D ∧ (hNq A 12 q ∧ 0 ≤ q ∧ q < A.1) ∧ ∀ (j : Nat) (x : aDf), D[j]? = some x → sg_g τ 12 x.2.2.2 < sg_g τ 11 q
theorem j_pg (hB : tkB c t N) {τ τ' : sg_S} {A : aT} {D : List aDf} {q : Int} (eP : pParse c (pLv c 12).1 τ = some (τ', q)) (eF : aPg t N aE0 = some (A, D, q)) : jPg τ' A D q := by
  have hE : cBq c t N 12 (pLv c 12).1 (aLv t 12).1 := ⟨(sF_lv hB 12).1, (gF_lv 12).1, (tF_lv 12).1, (jF_lv hB 12).1⟩
  unfold pParse pRest at eP
  unfold aPg at eF
  have s0 : sg_g (sg_w (sg_w τ 2 16 0) 19 8 0) 2 16 = aE0.1 := by
    rw [sg_gw_c _ _ _ _ _ _ (by decide), sg_gw_e _ _ _ _ (by decide)]; rfl
  have hS0 : cS (sg_w (sg_w τ 2 16 0) 19 8 0) aE0 0 [] := ⟨s0, by simp only [aE0]; omega, fun k a b => by simp only [aE0] at b; omega, by simp, fun x hx => by simp at hx⟩
  have hD0 : cD2 (sg_w (sg_w τ 2 16 0) 19 8 0) [] := ⟨by rw [sg_gw_e _ _ _ _ (by decide)]; rfl, by simp, fun d x hx => by simp at hx⟩
  split at eP
  · cases eP
  rename_i i1 τ1 e1
  split at eF
  · cases eF
  rename_i j1 A1 D1 f1
  rcases dfs_ok hB hE.1 12 [] 0 _ aE0 [] (Nat.zero_le _) hS0 hD0 (by simp) rfl with ⟨u, -⟩ | ⟨i2, τ2, A2, D2, Rs2, u1, u2, u3, u4, u5, u6⟩
  · rw [u] at e1; cases e1
  rw [u1] at e1
  rw [u2] at f1
  cases e1
  cases f1
  obtain ⟨v1, v2, v3, v4, v5⟩ := j_dfs hB hE 12 [] 0 _ aE0 [] _ _ _ _ (Nat.zero_le _) hS0 hD0 rfl (fun k a b => by simp only [aE0] at b; omega) ⟨fun j x hx => by simp at hx, fun j j' x x' _ hx => by simp at hx⟩ u1 u2
  split at eP
  · cases eP
  rename_i i4 τ4 r g1
  split at eP
  rotate_left
  · cases eP
  split at eF
  · cases eF
  rename_i j4 A4 r' g2
  split at eF
  rotate_left
  · cases eF
  cases eP
  cases eF
  obtain ⟨w1, w2, w3, w4, w5⟩ := j_call hE v1 v2 v3 g1 g2
  obtain ⟨y1, y2, y3⟩ := jCq_E v4 v5 v3.1 w2 w3 w5
  have qb := w5.2.1
  exact ⟨y1, y2, ⟨w5.2.2.2, by omega, by omega⟩, y3⟩
end JTS
/-! All that a flat run of the class goes along. -/
theorem fT_det {A : aT} {R L L' : List Int} (h : fT A R L) (h' : fT A R L') : L = L' := by
  have k := fT_ind (A := A) (M := fun R L => ∀ L', fT A R L' → L = L') (fun L' g => (fT_nil g).symm) (fun n ns L1 L2 _ _ _ i1 i2 L' g => by
    obtain ⟨M1, M2, e, _, g2, g3⟩ := fT_inv g
    rw [e, i1 M1 g2, i2 M2 g3]) h
  exact k L' h'
theorem ty_all {A : aT} {D : List aDf} {q : Int} {T Tf : Int → Int} (hfr : frA A (aRt D ++ [q])) (hp : ∀ x ∈ D, ∀ p ∈ x.2.2.1, 0 ≤ p.2.2) (hk : kPg A D q T = some Tf) : (∀ (j : Nat) (x : aDf), D[j]? = some x → ∃ ds B sc, tyN A ds Tf B 201 sc x.2.2.2) ∧ ∃ ds B sc, tyN A ds Tf B 201 sc q := by
  obtain ⟨L, f1, f2, f3, -⟩ := hfr
  have h := tyP (T2 := Tf) (B2 := kBo A (kDl D []) 201 [] q (kDB A D [] 0 (fun _ => 0))) D [] 0 T Tf (fun _ => 0) L f1 f2 f3 (fun d hd => by simp at hd) (fun c hc => by simp at hc) hp hk (fun _ _ => rfl) (fun _ _ => rfl) (fun c hc => by simp at hc)
  exact ⟨fun j x hx => ⟨_, _, _, (h.1 j x hx).1⟩, _, _, _, h.2⟩
theorem jPg_e {τ σ : sg_S} {A : aT} {D : List aDf} {q : Int} (h : jPg τ A D q) (e : ∀ k, sg_g σ 11 k = sg_g τ 11 k ∧ sg_g σ 12 k = sg_g τ 12 k) : jPg σ A D q := by
  obtain ⟨h1, h2, h3, h4⟩ := h
  obtain ⟨g1, g2⟩ := jCq_r h1 h2 e
  exact ⟨g1, g2, h3, fun j x hx => by rw [(e _).2, (e _).1]; exact h4 j x hx⟩
theorem gRq_j {σ : sg_S} {A : aT} {L : List Int} (h : jCq σ A 0) (hL : ∀ x ∈ L, 0 ≤ x ∧ x < A.1) : gRq σ A L := fun x hx Lx hf y => by
  obtain ⟨-, L', l1, l2⟩ := h x (hL x hx).1 (hL x hx).2
  rw [fT_det hf l1]; exact l2 y
theorem asm {σ : sg_S} {A : aT} {D : List aDf} {q : Int} (hW : ckW σ A) (hD : cD2 σ D) (hfr : frA A (aRt D ++ [q])) (hty : (∀ (j : Nat) (x : aDf), D[j]? = some x → ∃ ds B sc, tyN A ds (sg_g σ 6) B 201 sc x.2.2.2) ∧ ∃ ds B sc, tyN A ds (sg_g σ 6) B 201 sc q) (hA : ckA σ A D.length q) (hj : jPg σ A D q) : ∃ H fs, dA σ A H D.length ∧ dI σ A H D.length 12 q fs 0 ∧ ∀ q', 0 ≤ q' → q' < (D.length : Int) → H q' ≤ fs ∧ nxq σ q' ≤ sg_g σ 11 q := by
  obtain ⟨H, fs, Ld, a1, a2, a3, a4, a5⟩ := hA
  obtain ⟨j1, j2, j3, j4⟩ := hj
  obtain ⟨LA, f1, f2, f3, -⟩ := hfr
  have sub : ∀ r ∈ aRt D ++ [q], ∃ L, fT A [r] L ∧ L.Nodup ∧ ∀ x ∈ L, 0 ≤ x ∧ x < A.1 := fun r hr => by
    obtain ⟨R1, R2, e⟩ := List.append_of_mem hr
    rw [e] at f1
    obtain ⟨La, Lb, e1, g1, g2⟩ := fT_spl R1 (r :: R2) LA f1
    obtain ⟨Lc, Le, e2, g3, g4⟩ := fT_spl [r] R2 Lb g2
    rw [e1, e2] at f2 f3
    exact ⟨Lc, g3, (List.nodup_append.mp (List.nodup_append.mp f2).2.1).1, fun x hx => f3 x (List.mem_append_right _ (List.mem_append_left _ hx))⟩
  have fsH := scN_le _ _ _ _ _ a3
  have rt : ∀ q', 0 ≤ q' → q' < (D.length : Int) → ∃ x, D[q'.toNat]? = some x ∧ sg_g σ 22 q' = x.2.2.2 := fun q' z1 z2 => by
    have hq : q'.toNat < D.length := by omega
    have hx : D[q'.toNat]? = some D[q'.toNat] := List.getElem?_eq_getElem hq
    obtain ⟨t1, t2, t3, t4⟩ := hD.2.2 q'.toNat D[q'.toNat] hx
    rw [show ((q'.toNat : Nat) : Int) = q' by omega] at t3
    exact ⟨_, hx, t3⟩
  have d12 := hD.2.1
  refine ⟨H, fs, ⟨by omega, fun q' z1 z2 => ?_⟩, ?_, fun q' z1 z2 => ?_⟩
  · obtain ⟨⟨L, b1, b2, b3, b4, b5, b6, b7, b8, b9⟩, ord⟩ := a1 q' z1 z2
    obtain ⟨x, hx, ex⟩ := rt q' z1 z2
    obtain ⟨ds, B, sc, ty⟩ := hty.1 _ x hx
    have hr := j2.1 _ x hx
    obtain ⟨L', s1, s2, s3⟩ := sub x.2.2.2 (List.mem_append_left _ (by unfold aRt; exact List.mem_map.mpr ⟨x, List.mem_of_getElem? hx, rfl⟩))
    refine ⟨⟨L', ds, B, sc, by rw [ex]; exact hr.2, by rw [ex]; exact s1, s2, gRq_j j1 s3, by rw [ex]; exact ty, b3, by rw [ex]; exact hr.1 201, ⟨⟨b5.1, ?_⟩, b4⟩, b9, b6.1, by omega, b7⟩, fun q'' w1 w2 => ⟨ord q'' w1 w2, ?_⟩⟩
    · rw [List.length_append, List.length_cons, List.length_nil]; omega
    · obtain ⟨x2, hx2, ex2⟩ := rt q'' w1 (by omega)
      unfold nxq
      rw [ex, ex2]
      have := j2.2 _ _ x2 x (show q''.toNat < q'.toNat by omega) hx2 hx
      omega
  · obtain ⟨ds, B, sc, ty⟩ := hty.2
    obtain ⟨L', s1, s2, s3⟩ := sub q (List.mem_append_right _ (by simp))
    refine ⟨L', ds, B, sc, j3.2, s1, s2, gRq_j j1 s3, ty, ?_, j3.1 201, a5, ⟨by decide, by decide⟩, a2, a4, fun i hi => by omega⟩
    rw [Int.add_zero]
    exact a3
  · obtain ⟨⟨L, b1, b2, b3, b4, b5, b6, b7, b8, b9⟩, ord⟩ := a1 q' z1 z2
    obtain ⟨x, hx, ex⟩ := rt q' z1 z2
    refine ⟨b6.2, ?_⟩
    unfold nxq
    rw [ex]
    have := j4 _ x hx
    omega
/-! What is laid out stays while its rows stay. -/
def rwE (σ σ' : sg_S) : Prop := ∀ k, sg_g σ' 6 k = sg_g σ 6 k ∧ sg_g σ' 16 k = sg_g σ 16 k ∧ sg_g σ' 22 k = sg_g σ 22 k ∧ sg_g σ' 23 k = sg_g σ 23 k ∧ sg_g σ' 24 k = sg_g σ 24 k ∧ sg_g σ' 27 k = sg_g σ 27 k ∧ sg_g σ' 29 k = sg_g σ 29 k ∧ sg_g σ' 30 k = sg_g σ 30 k ∧ sg_g σ' 31 k = sg_g σ 31 k ∧ sg_g σ' 34 k = sg_g σ 34 k
theorem rwE_F {L : List Nat} {σ σ' : sg_S} (f : sg_F L σ σ') (hL : (sg_ca L 6 && sg_ca L 16 && sg_ca L 22 && sg_ca L 23 && sg_ca L 24 && sg_ca L 27 && sg_ca L 29 && sg_ca L 30 && sg_ca L 31 && sg_ca L 34) = true) : rwE σ σ' := by
  simp only [Bool.and_eq_true] at hL
  obtain ⟨⟨⟨⟨⟨⟨⟨⟨⟨l1, l2⟩, l3⟩, l4⟩, l5⟩, l6⟩, l7⟩, l8⟩, l9⟩, l10⟩ := hL
  exact fun k => ⟨sg_F_ga f l1, sg_F_ga f l2, sg_F_ga f l3, sg_F_ga f l4, sg_F_ga f l5, sg_F_ga f l6, sg_F_ga f l7, sg_F_ga f l8, sg_F_ga f l9, sg_F_ga f l10⟩
theorem cA_c {σ σ' : sg_S} {A : aT} {n b : Int} {s : Nat} (e : rwE σ σ') (h : cA σ A n s b) : cA σ' A n s b := by
  refine ⟨fun a c => ?_, fun a c => ?_⟩
  · rw [(e n).2.1, (e b).2.2.2.2.2.2.2.2.2, (e _).1]; exact h.1 a c
  · refine ⟨by rw [(e n).2.1]; exact (h.2 a c).1, fun i x hx => ?_⟩
    rw [(e _).2.2.2.2.2.2.2.2.2, (e _).1]; exact (h.2 a c).2 i x hx
theorem scS_c {σ σ' : sg_S} {A : aT} {n : Int} {go go' : List Int → Int → Int → Int → Prop} (e : rwE σ σ') (hg : ∀ es x b b', go es x b b' → go' es x b b') : ∀ (R : List Int) (s : Nat) (es : List Int) (b b' : Int), scS σ A go n s es b R b' → scS σ' A go' n s es b R b'
  | [], s, es, b, b', h => by simp only [scS] at h ⊢; exact h
  | x :: R, s, es, b, b', h => by
    simp only [scS] at h ⊢
    obtain ⟨h1, b2, h2, h3⟩ := h
    exact ⟨cA_c e h1, b2, hg _ _ _ _ h2, scS_c e hg R _ _ _ _ h3⟩
theorem scN_c {σ σ' : sg_S} {A : aT} {cl : Int} (e : rwE σ σ') : ∀ (f : Nat) (es : List Int) (n b b' : Int), scN σ A cl f es n b b' → scN σ' A cl f es n b b'
  | 0, _, _, _, _, h => h.elim
  | f + 1, es, n, b, b', h => by
    obtain ⟨h1, h2, h3, h4⟩ := h
    refine ⟨fun c => by rw [(e n).2.1]; exact h1 c, fun c => ?_, fun c => ?_, scS_c e (fun es x b b' => scN_c e f es x b b') _ _ _ _ _ h4⟩
    · rw [(e n).2.1, (e _).2.2.2.2.2.2.2.2.2, (e n).1]; exact h2 c
    · obtain ⟨y1, y2, y3, y4⟩ := h3 c
      unfold clF
      rw [(e n).2.1, (e n).1, (e (sg_g σ 16 n)).2.2.2.1, (e (sg_g σ 16 n)).2.2.1, (e _).1]
      exact ⟨y1, y2, fun i x hx => by rw [(e x).1, (e _).2.2.2.2.2.1]; exact y3 i x hx, y4⟩
theorem pC_c {σ σ' : sg_S} {p : Int} {C : List (Int × Int)} (e : rwE σ σ') (h : pC σ p C) : pC σ' p C := fun i z hz => by
  rw [(e _).2.2.2.2.2.2.1, (e _).2.2.2.2.2.2.2.1]; exact h i z hz
theorem ckA_c {σ σ' : sg_S} {A : aT} {M r : Int} (e : rwE σ σ') (h : ckA σ A M r) : ckA σ' A M r := by
  obtain ⟨H, fs, Ld, a1, a2, a3, a4, a5⟩ := h
  refine ⟨H, fs, Ld, fun q z1 z2 => ?_, a2, scN_c e _ _ _ _ _ a3, a4, ?_⟩
  · obtain ⟨⟨L, b1, b2, b3, b4, b5, b6, b7, b8, b9⟩, ord⟩ := a1 q z1 z2
    refine ⟨⟨L, by rw [(e q).2.2.1]; exact b1, b2, ?_, ?_, ?_, ?_, fun i hi => ?_, ?_, ?_⟩, fun q' w1 w2 => by rw [(e q).2.2.2.2.1]; exact ord q' w1 w2⟩
    · rw [(e q).2.2.2.2.1, (e q).2.2.2.1, (e q).2.2.1]; exact scN_c e _ _ _ _ _ b3
    · rw [(e q).2.2.2.2.2.2.2.2.1, (e q).2.2.1]; exact pC_c e b4
    · rw [(e q).2.2.2.2.2.2.2.2.1, (e q).2.2.1]; exact b5
    · rw [(e q).2.2.2.2.1]; exact b6
    · rw [(e q).2.2.2.1] at hi
      rw [(e q).2.2.2.2.1, (e _).2.2.2.2.2.2.2.2.2, (e _).2.2.2.2.2.1]; exact b7 i hi
    · rw [(e q).2.2.1, (e _).1]; exact b8
    · rw [(e q).2.2.2.1]; exact b9
  · rw [(e 12).2.2.2.2.2.2.2.2.1]
    exact ⟨a5.1, pC_c e a5.2⟩
theorem ckA_F {L : List Nat} {σ σ' : sg_S} {A : aT} {M r : Int} (h : ckA σ A M r) (f : sg_F L σ σ') (hL : (sg_ca L 6 && sg_ca L 16 && sg_ca L 22 && sg_ca L 23 && sg_ca L 24 && sg_ca L 27 && sg_ca L 29 && sg_ca L 30 && sg_ca L 31 && sg_ca L 34) = true) : ckA σ' A M r := ckA_c (rwE_F f hL) h
/-! read of the class: all that a flat run goes along. -/
theorem prs_ok2 (z : Value) (σ : sg_S) (b : Int) {c : tkC} {t : aK} {N : Nat} (hB : tkB c t N) (hb : tb σ = c.1) (hg : sg_gl σ 37 = c.2.2.1) (hn : b = c.2.1) (h7 : (sg_gl σ 36 7, sg_g σ 36 6) = c.2.2.2) : wx z 894 183 0 [(0, .inr (.inr (.ref 35))), (1, .inl b)] [] σ (fun v σ' => ∃ q, v = some (.inl q) ∧ sg_F pL2 σ σ' ∧ ((∃ τ' A D k Rs, aPg t N aE0 = some (A, D, k) ∧ q = -1 ∧ te σ' τ' ∧ sg_g σ' 35 4 = k ∧ cS τ' A 0 (k :: Rs) ∧ cD2 τ' D ∧ jPg τ' A D k) ∨ (0 ≤ q ∧ sg_R q))) := by
  have hE := (px_lv c hB.1 12 (Nat.le_refl _)).1
  refine wk_post (px_prs z σ b c hB.1 884 (pLv c 12).1 hE σ (fun _ _ _ => ⟨rfl, rfl⟩) hb hg hn h7) ?_
  rintro v σ' ⟨q, rfl, hF, hq⟩
  refine ⟨q, rfl, hF, ?_⟩
  rcases pg_ok hB σ with ⟨x1, x2⟩ | ⟨τ', A, D, k, Rs, x1, x2, x3, x4, x5⟩
  · rcases hq with ⟨τ', k, y1, -⟩ | ⟨-, y2⟩
    · rw [x1] at y1; cases y1
    · exact Or.inr y2
  · rcases hq with ⟨τ2, k2, y1, y2, y3, y4, y5⟩ | ⟨y1, -⟩
    · rw [x1] at y1; cases y1
      exact Or.inl ⟨τ', A, D, k, Rs, x2, y3, y4, y5, x3, x4, j_pg hB x1 x2⟩
    · rw [x1] at y1; cases y1
/-- two runs of one method from one state -/
theorem wk_and {E : am_E} {T : List am_M} {Sh : List sg_Sh} {d j pc : Nat} {ls : bm_L} {st : List bm_V} {σ : sg_S} {Q1 Q2 : Option bm_V → sg_S → Prop} (h1 : wk E T Sh d j pc ls st σ Q1) (h2 : wk E T Sh d j pc ls st σ Q2) : wk E T Sh d j pc ls st σ (fun v σ' => Q2 v σ' ∧ ∃ v1 σ1, Q1 v1 σ1 ∧ sg_H Sh σ1 = sg_H Sh σ') := by
  obtain ⟨v1, σ1, ⟨n1, r1⟩, q1⟩ := h1
  obtain ⟨v2, σ2, ⟨n2, r2⟩, q2⟩ := h2
  have a := am_ex_same (n' := max n1 n2) (d' := d) (Nat.le_max_left ..) (Nat.le_refl _) r1
  have b := am_ex_same (n' := max n1 n2) (d' := d) (Nat.le_max_right ..) (Nat.le_refl _) r2
  rw [a] at b
  have e := Option.some.inj b
  exact ⟨v2, σ2, ⟨n2, r2⟩, q2, v1, σ1, q1, (Prod.mk.inj e).2⟩
theorem sgH_6 {σ1 σ2 : sg_S} (h : sg_H am_Sh0 σ1 = sg_H am_Sh0 σ2) : ∀ x, 0 ≤ x → sg_g σ1 6 x = sg_g σ2 6 x := fun x hx => by
  have e : ∀ σ : sg_S, (sg_H am_Sh0 σ)[6]? = some (sg_cell σ 6 (.inl (0, 200))) := fun σ => sg_at rfl
  have q := (e σ1).symm.trans ((congrArg (fun (H : am_H) => H[6]?) h).trans (e σ2))
  have q2 := Option.some.inj q
  simp only [sg_cell] at q2
  rw [if_neg (by decide), if_neg (by decide)] at q2
  have q3 := Sum.inl.inj q2
  have q4 := (Prod.mk.inj (Prod.mk.inj q3).2).2
  have q5 := congrFun q4 x.toNat
  have q6 : σ1.1 6 x = σ2.1 6 x := by
    have : ((x.toNat : Nat) : Int) = x := by omega
    rw [this] at q5
    exact q5
  unfold sg_g
  rw [q6]
theorem sgH_fd {a k ci : Nat} {tp : List Value} {v : Int32} {σ1 σ2 : sg_S} (hs : sg_sh am_Sh0 a = some (.inr (ci, tp))) (hk : tp[k]? = some (.int v)) (h : sg_H am_Sh0 σ1 = sg_H am_Sh0 σ2) : sg_g σ1 a (k : Int) = sg_g σ2 a (k : Int) := by
  have e : ∀ σ : sg_S, (sg_H am_Sh0 σ)[a]? = some (sg_cell σ a (.inr (ci, tp))) := fun σ => sg_at hs
  have q := (e σ1).symm.trans ((congrArg (fun (H : am_H) => H[a]?) h).trans (e σ2))
  have q2 := Option.some.inj q
  simp only [sg_cell] at q2
  have q3 := Sum.inr.inj (Sum.inr.inj q2)
  have q4 := (Prod.mk.inj q3).2
  have q5 := congrArg (fun l : List Value => l[k]?) q4
  have f : ∀ σ : sg_S, (List.mapIdx (fun k v => sg_fd σ a k v) tp)[k]? = some (.int (σ.1 a (k : Int))) := fun σ => by
    rw [List.getElem?_mapIdx, hk]; rfl
  have q6 := (f σ1).symm.trans (q5.trans (f σ2))
  have q7 := Value.int.inj (Option.some.inj q6)
  unfold sg_g
  rw [q7]
/-- a PROGRAM stands, ready for flat runs -/
def flR (σ : sg_S) : Prop := ∃ A D k, ckW σ A ∧ cD2 σ D ∧ frA A (aRt D ++ [k]) ∧ ((∀ (j : Nat) (x : aDf), D[j]? = some x → ∃ ds B sc, tyN A ds (sg_g σ 6) B 201 sc x.2.2.2) ∧ ∃ ds B sc, tyN A ds (sg_g σ 6) B 201 sc k) ∧ ckA σ A D.length k ∧ jPg σ A D k ∧ sg_g σ 35 4 = k
/-- what read leaves: types -/
theorem c_readT {σ : sg_S} {c : tkC} {t : aK} {N : Nat} {Q : Int → sg_S → Prop} (hB : tkB c t N) (hV : wT t) (hb : tb σ = c.1) (hg : sg_gl σ 37 = c.2.2.1) (hn : sg_g σ 0 8 = c.2.1) (h7 : (sg_gl σ 36 7, sg_g σ 36 6) = c.2.2.2) (k1 : ∀ q σ', ¬ accP t N → sg_g σ' 0 10 = 0 → sg_g σ' 0 8 = sg_g σ 0 8 → Q q σ') (k2 : ∀ q σ' A D k T, aPg t N aE0 = some (A, D, k) → kPg A D k T = some (sg_g σ' 6) → sg_g σ' 38 13 = 0 → accP t N → sg_g σ' 0 10 = 1 → sg_g σ' 0 8 = 0 → Q q σ') : V_cRead σ Q := by
  unfold V_cRead
  intro σ1 e1
  unfold V_cForget45
  intro σ5 e5 f5
  unfold V_cForget61
  intro σ11 e11 f11
  have F11 : sg_F [11000, 12045, 12061] σ σ11 := by rw [e11, e5, e1]; exact sg_F_w (sg_F_w (sg_F_w (sg_F_r _ _) rfl _) rfl _) rfl _
  have p11 : sg_g σ11 0 10 = 0 := by rw [e11, sg_gw_c _ _ _ _ _ _ (by decide), e5, sg_gw_c _ _ _ _ _ _ (by decide), e1, sg_gw_e _ _ _ _ (by decide)]
  have s11 : sg_g σ11 0 8 = sg_g σ 0 8 := sg_F_g F11 rfl
  unfold V_cParse
  intro z
  refine wk_post (prs_ok z σ11 (sg_g σ 0 8) hB (by rw [← hb]; exact tb_eq (fun q => sg_F_ga F11 rfl)) (by rw [← hg]; exact funext (fun q => sg_F_gal F11 rfl)) hn (by rw [← h7]; exact Prod.ext (sg_F_gal F11 rfl) (sg_F_ga F11 rfl))) ?_
  rintro v σ17 ⟨q, rfl, hF, hq⟩
  refine ⟨q, rfl, ?_, sg_F_m hF rfl, ?_⟩
  · rcases hq with ⟨-, -, -, -, -, -, h1, -⟩ | ⟨-, -, h1⟩
    · rw [h1]; decide
    · exact h1
  intro rq f17 v24 e24 r24 σ27 e27
  have s27 : ∀ σ33, sg_F [6, 16, 24, 29, 30, 31, 32, 33, 34, 39, 40, 41, 42, 43, 44, 7028, 10000, 10038, 11038, 12038, 13038, 14038] σ27 σ33 → sg_g σ33 0 10 = 0 ∧ sg_g σ33 0 8 = sg_g σ 0 8 := fun σ33 f33 => by
    constructor
    · rw [sg_F_g f33 (by rfl), e27, sg_gw_k _ _ _ _ _ _ (by decide), sg_F_g f17 (by rfl)]; exact p11
    · rw [sg_F_g f33 (by rfl), e27, sg_gw_k _ _ _ _ _ _ (by decide), sg_F_g f17 (by rfl)]; exact s11
  rcases hq with ⟨τ', A, D, k, Rs, x1, x2, x3, x4, x5, x6, x7⟩ | ⟨x1, x2, x3⟩
  · have hc := w_pg hV x1 wA_0
    have hp := t_pg x1 ⟨Int.le_refl _, by decide⟩
    have hp2 := t_pg2 x1 ⟨Int.le_refl _, by decide⟩ rfl
    have f27 : sg_F [10000] σ17 σ27 := by rw [e27]; exact sg_F_w (sg_F_r _ _) rfl _
    refine ⟨fun v σ33 => (v < 0 ∧ sg_g σ33 38 13 = 0 ∧ kPg A D k (sg_g σ27 6) = some (sg_g σ33 6)) ∨ (0 ≤ v ∧ kPg A D k (fun _ => 0) = none), ⟨fun h => absurd h (by omega), fun _ => ?_⟩, ?_⟩
    · rw [x4]
      refine c_check (ckW_F (te_W x3 x5 hc.1) f27 rfl) (cD2_F (te_D x3 x6) f27 rfl) hp.1 hc.2 hp2 (fun p σ' y1 y2 y3 rp f' σ51 e51 => Or.inr ⟨y2, ?_⟩) (fun σ' y1 y2 rp f' σ51 e51 => Or.inl ⟨by decide, by rw [e51, sg_gw_c _ _ _ _ _ _ (by decide)]; exact y2.1, ?_⟩)
      · exact (kPg_ag A D k _ _).mp y1
      · have : sg_g σ51 6 = sg_g σ' 6 := funext fun x => by rw [e51, sg_gw_c _ _ _ _ _ _ (by decide)]
        rw [this]; exact y1
    · intro v35 σ33 r35 f33 h33
      obtain ⟨u1, u2⟩ := s27 σ33 f33
      refine ⟨fun h => ?_, fun h => ?_⟩
      · intro σ39 e39 σ42 e42
        rcases h33 with ⟨-, y0, y⟩ | ⟨y, -⟩
        · have n0 : ¬ kPg A D k (fun _ => 0) = none := fun h => by
            have := (kPg_ag A D k _ (sg_g σ27 6)).mp h
            rw [this] at y; cases y
          refine k2 _ σ42 A D k (sg_g σ27 6) x1 ?_ (by rw [e42, sg_gw_c _ _ _ _ _ _ (by decide), e39, sg_gw_c _ _ _ _ _ _ (by decide)]; exact y0) ⟨A, D, k, x1, n0⟩ ?_ ?_
          · have : sg_g σ42 6 = sg_g σ33 6 := funext fun x => by rw [e42, sg_gw_c _ _ _ _ _ _ (by decide), e39, sg_gw_c _ _ _ _ _ _ (by decide)]
            rw [this]; exact y
          · rw [e42, sg_gw_k _ _ _ _ _ _ (by decide), e39, sg_gw_e _ _ _ _ (by decide)]
          · rw [e42, sg_gw_e _ _ _ _ (by decide)]
        · omega
      · rcases h33 with ⟨y, -⟩ | ⟨-, y⟩
        · omega
        · refine k1 _ σ33 ?_ u1 u2
          rintro ⟨A', D', k', z1, z2⟩
          rw [x1] at z1
          cases z1
          exact z2 y
  · refine ⟨fun v σ33 => 0 ≤ v, ⟨fun _ => x2, fun h => absurd h (by omega)⟩, ?_⟩
    intro v35 σ33 r35 f33 h33
    obtain ⟨u1, u2⟩ := s27 σ33 f33
    refine ⟨fun h => absurd h (by omega), fun _ => k1 _ σ33 ?_ u1 u2⟩
    rintro ⟨A', D', k', z1, z2⟩
    rcases x1 with y | ⟨A, D, k, y1, y2⟩
    · rw [y] at z1; cases z1
    · rw [y1] at z1
      cases z1
      exact z2 (kPg_bad y2)
/-- what read leaves: slots, orders, ranges -/
theorem c_readS {σ : sg_S} {c : tkC} {t : aK} {N : Nat} {Q : Int → sg_S → Prop} (hB : tkB c t N) (hV : wT t) (hb : tb σ = c.1) (hg : sg_gl σ 37 = c.2.2.1) (hn : sg_g σ 0 8 = c.2.1) (h7 : (sg_gl σ 36 7, sg_g σ 36 6) = c.2.2.2) (k1 : ∀ q σ', sg_g σ' 0 10 = 0 → Q q σ') (k2 : ∀ q σ' A D k, aPg t N aE0 = some (A, D, k) → ckW σ' A → cD2 σ' D → frA A (aRt D ++ [k]) → (∀ x ∈ D, ∀ p ∈ x.2.2.1, 0 ≤ p.2.2) → (ckA σ' A D.length k ∨ ¬ sg_g σ' 38 13 = 0) → jPg σ' A D k → sg_g σ' 35 4 = k → sg_g σ' 0 10 = 1 → Q q σ') : V_cRead σ Q := by
  unfold V_cRead
  intro σ1 e1
  unfold V_cForget45
  intro σ5 e5 f5
  unfold V_cForget61
  intro σ11 e11 f11
  have F11 : sg_F [11000, 12045, 12061] σ σ11 := by rw [e11, e5, e1]; exact sg_F_w (sg_F_w (sg_F_w (sg_F_r _ _) rfl _) rfl _) rfl _
  have p11 : sg_g σ11 0 10 = 0 := by rw [e11, sg_gw_c _ _ _ _ _ _ (by decide), e5, sg_gw_c _ _ _ _ _ _ (by decide), e1, sg_gw_e _ _ _ _ (by decide)]
  unfold V_cParse
  intro z
  refine wk_post (prs_ok2 z σ11 (sg_g σ 0 8) hB (by rw [← hb]; exact tb_eq (fun q => sg_F_ga F11 rfl)) (by rw [← hg]; exact funext (fun q => sg_F_gal F11 rfl)) hn (by rw [← h7]; exact Prod.ext (sg_F_gal F11 rfl) (sg_F_ga F11 rfl))) ?_
  rintro v σ17 ⟨q, rfl, hF, hq⟩
  refine ⟨q, rfl, ?_, sg_F_m hF rfl, ?_⟩
  · rcases hq with ⟨-, -, -, -, -, -, h1, -⟩ | ⟨-, h1⟩
    · rw [h1]; decide
    · exact h1
  intro rq f17 v24 e24 r24 σ27 e27
  have s27 : ∀ σ33, sg_F [6, 16, 24, 29, 30, 31, 32, 33, 34, 39, 40, 41, 42, 43, 44, 7028, 10000, 10038, 11038, 12038, 13038, 14038] σ27 σ33 → sg_g σ33 0 10 = 0 := fun σ33 f33 => by
    rw [sg_F_g f33 (by rfl), e27, sg_gw_k _ _ _ _ _ _ (by decide), sg_F_g f17 (by rfl)]; exact p11
  rcases hq with ⟨τ', A, D, k, Rs, x1, x2, x3, x4, x5, x6, x7⟩ | ⟨x2, x3⟩
  · have hc := w_pg hV x1 wA_0
    have hp := t_pg x1 ⟨Int.le_refl _, by decide⟩
    have hp2 := t_pg2 x1 ⟨Int.le_refl _, by decide⟩ rfl
    have f27 : sg_F [10000] σ17 σ27 := by rw [e27]; exact sg_F_w (sg_F_r _ _) rfl _
    have W27 := ckW_F (te_W x3 x5 hc.1) f27 rfl
    have D27 := cD2_F (te_D x3 x6) f27 rfl
    have j27 : jPg σ27 A D k := jPg_e x7 (fun j => ⟨by rw [sg_F_ga f27 rfl]; exact ag_g x3 rfl j, by rw [sg_F_ga f27 rfl]; exact ag_g x3 rfl j⟩)
    refine ⟨fun v σ33 => (ckA σ33 A D.length k ∨ ¬ sg_g σ33 38 13 = 0) ∧ sg_F [6, 16, 24, 29, 30, 31, 32, 33, 34, 39, 40, 41, 42, 43, 44, 7028, 10000, 10038, 11038, 12038, 13038, 14038] σ27 σ33, ⟨fun h => absurd h (by omega), fun _ => ?_⟩, ?_⟩
    · rw [x4]
      refine d_check W27 D27 hp.1 hp2 (fun p σ' y1 rp f' σ51 e51 => ?_) (fun p σ' y1 y2 y3 rp f' σ51 e51 => ?_)
      · have f51 : sg_F [10000] σ' σ51 := by rw [e51]; exact sg_F_w (sg_F_r _ _) rfl _
        exact ⟨Or.inr (by rw [sg_F_g f51 (by rfl)]; exact y1), sg_F_t (sg_F_m f' rfl) (sg_F_m f51 rfl)⟩
      · have f51 : sg_F [10000] σ' σ51 := by rw [e51]; exact sg_F_w (sg_F_r _ _) rfl _
        exact ⟨Or.inl (ckA_F y2 f51 rfl), sg_F_t (sg_F_m f' rfl) (sg_F_m f51 rfl)⟩
    · intro v35 σ33 r35 f33 h33
      have u1 := s27 σ33 f33
      refine ⟨fun h => ?_, fun h => k1 _ σ33 u1⟩
      intro σ39 e39 σ42 e42
      have f42 : sg_F [9000, 11000] σ33 σ42 := by rw [e42, e39]; exact sg_F_w (sg_F_w (sg_F_r _ _) rfl _) rfl _
      have F42 : sg_F [6, 16, 24, 29, 30, 31, 32, 33, 34, 39, 40, 41, 42, 43, 44, 7028, 9000, 10000, 10038, 11000, 11038, 12038, 13038, 14038] σ27 σ42 := sg_F_t (sg_F_m f33 rfl) (sg_F_m f42 rfl)
      refine k2 _ σ42 A D k x1 (ckW_F W27 F42 rfl) (cD2_F D27 F42 rfl) hp2 (fun x hx => (hp.1 x hx).2.1) ?_ (jPg_e j27 (fun j => ⟨sg_F_ga F42 rfl, sg_F_ga F42 rfl⟩)) ?_ ?_
      · rcases h33.1 with y | y
        · exact Or.inl (ckA_F y f42 rfl)
        · exact Or.inr (by rw [sg_F_g f42 (by rfl)]; exact y)
      · rw [sg_F_g F42 (by rfl), sg_F_g f27 (by rfl)]; exact x4
      · rw [e42, sg_gw_k _ _ _ _ _ _ (by decide), e39, sg_gw_e _ _ _ _ (by decide)]
  · refine ⟨fun v σ33 => 0 ≤ v, ⟨fun _ => x2, fun h => absurd h (by omega)⟩, ?_⟩
    intro v35 σ33 r35 f33 h33
    exact ⟨fun h => absurd h (by omega), fun _ => k1 _ σ33 (s27 σ33 f33)⟩
/-- read of the class -/
def rdR (t : aK) (N : Nat) (σ σ' : sg_S) : Prop := (¬ accP t N ∧ sg_g σ' 0 10 = 0 ∧ sg_g σ' 0 8 = sg_g σ 0 8) ∨ (accP t N ∧ sg_g σ' 0 10 = 1 ∧ sg_g σ' 0 8 = 0 ∧ flR σ')
theorem cr_all (z : Value) (σ : sg_S) {c : tkC} {t : aK} {N : Nat} (hB : tkB c t N) (hV : wT t) (hb : tb σ = c.1) (hg : sg_gl σ 37 = c.2.2.1) (hn : sg_g σ 0 8 = c.2.1) (h7 : (sg_gl σ 36 7, sg_g σ 36 6) = c.2.2.2) : wx z 895 23 0 [(0, .inr (.inr (.ref 0)))] [] σ (fun v σ' => ∃ q, v = some (.inl q) ∧ sg_R q ∧ sg_F [3, 4, 5, 6, 7, 8, 9, 10, 11, 12, 13, 14, 15, 16, 17, 18, 20, 21, 22, 23, 24, 25, 26, 27, 29, 30, 31, 32, 33, 34, 39, 40, 41, 42, 43, 44, 3036, 4035, 4036, 5035, 5036, 6036, 7028, 7036, 8036, 9000, 9019, 10000, 10038, 11000, 11038, 12038, 12045, 12061, 13038, 14038, 17002] σ σ' ∧ rdR t N σ σ') := by
  have r1 := w_cRead z σ (fun _ σ' => (¬ accP t N ∧ sg_g σ' 0 10 = 0 ∧ sg_g σ' 0 8 = sg_g σ 0 8) ∨ (accP t N ∧ sg_g σ' 0 10 = 1 ∧ sg_g σ' 0 8 = 0 ∧ sg_g σ' 38 13 = 0 ∧ ∃ A D k T, aPg t N aE0 = some (A, D, k) ∧ kPg A D k T = some (sg_g σ' 6))) (c_readT hB hV hb hg hn h7 (fun q σ' a b d => Or.inl ⟨a, b, d⟩) (fun q σ' A D k T a b d e f g => Or.inr ⟨e, f, g, d, A, D, k, T, a, b⟩))
  have r2 := w_cRead z σ (fun _ σ' => sg_g σ' 0 10 = 0 ∨ (sg_g σ' 0 10 = 1 ∧ ∃ A D k, aPg t N aE0 = some (A, D, k) ∧ ckW σ' A ∧ cD2 σ' D ∧ frA A (aRt D ++ [k]) ∧ (∀ x ∈ D, ∀ p ∈ x.2.2.1, 0 ≤ p.2.2) ∧ (ckA σ' A D.length k ∨ ¬ sg_g σ' 38 13 = 0) ∧ jPg σ' A D k ∧ sg_g σ' 35 4 = k)) (c_readS hB hV hb hg hn h7 (fun q σ' a => Or.inl a) (fun q σ' A D k a b d e f g i j l => Or.inr ⟨l, A, D, k, a, b, d, e, f, g, i, j⟩))
  refine wk_post (wk_and r1 r2) ?_
  rintro v σ' ⟨⟨q, e1, e2, e3, q2⟩, v1, σ1, ⟨_, _, _, _, q1⟩, eH⟩
  have h10 : sg_g σ1 0 10 = sg_g σ' 0 10 := sgH_fd (a := 0) (k := 10) rfl rfl eH
  have h8 : sg_g σ1 0 8 = sg_g σ' 0 8 := sgH_fd (a := 0) (k := 8) rfl rfl eH
  have h38 : sg_g σ1 38 13 = sg_g σ' 38 13 := sgH_fd (a := 38) (k := 13) rfl rfl eH
  refine ⟨q, e1, e2, e3, ?_⟩
  rcases q1 with ⟨a1, a2, a3⟩ | ⟨a1, a2, a3, a4, A, D, k, T, a5, a6⟩
  · exact Or.inl ⟨a1, by rw [← h10]; exact a2, by rw [← h8]; exact a3⟩
  · right
    rw [h10] at a2
    rw [h8] at a3
    rw [h38] at a4
    refine ⟨a1, a2, a3, ?_⟩
    rcases q2 with y | ⟨-, A', D', k', b1, b2, b3, b4, b5, b6, b7, b8⟩
    · rw [y] at a2; cases a2
    · rw [a5] at b1
      cases b1
      have ty : (∀ (j : Nat) (x : aDf), D[j]? = some x → ∃ ds B sc, tyN A ds (sg_g σ' 6) B 201 sc x.2.2.2) ∧ ∃ ds B sc, tyN A ds (sg_g σ' 6) B 201 sc k := by
        obtain ⟨L, f1, f2, f3, -⟩ := id b4
        have h := tyP (T2 := sg_g σ' 6) (B2 := kBo A (kDl D []) 201 [] k (kDB A D [] 0 (fun _ => 0))) D [] 0 T (sg_g σ1 6) (fun _ => 0) L f1 f2 f3 (fun d hd => by simp at hd) (fun c hc => by simp at hc) b5 a6 (fun x hx => (sgH_6 eH x (f3 x hx).1).symm) (fun _ _ => rfl) (fun c hc => by simp at hc)
        exact ⟨fun j x hx => ⟨_, _, _, (h.1 j x hx).1⟩, _, _, _, h.2⟩
      refine ⟨A, D, k, b2, b3, b4, ty, ?_, b7, b8⟩
      rcases b6 with y | y
      · exact y
      · exact absurd a4 y
