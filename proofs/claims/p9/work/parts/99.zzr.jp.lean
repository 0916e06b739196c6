/-! Ranges and levels: LET, IF, operators. -/
def jF (N : Nat) (h : Nat) (P : pF) (F : aF) : Prop := ∀ i τ A i' τ' A' q, i ≤ N → sg_g τ 2 16 = A.1 → 0 ≤ A.1 ∧ A.1 ≤ 200 → P i τ = some (i', τ', q) → F i A = some (i', A', q) → jQ τ' A' A.1 q h
/-- all that is known of what reads a part -/
def cBq (c : tkC) (t : aK) (N h : Nat) (E : pF) (E' : aF) : Prop := sF c t N E E' ∧ gF E' ∧ tF E' ∧ jF N h E E'
theorem hNq_m {A : aT} {h h' : Nat} {x : Int} (a : hNq A h x) (b : h ≤ h') : hNq A h' x := fun fu => Nat.le_trans (a fu) b
theorem jQ_m {τ : sg_S} {A : aT} {b q : Int} {h h' : Nat} (a : jQ τ A b q h) (hh : h ≤ h') : jQ τ A b q h' := ⟨a.1, a.2.1, a.2.2.1, hNq_m a.2.2.2 hh⟩
theorem cB_m {c : tkC} {t : aK} {N h h' : Nat} {E : pF} {E' : aF} (a : cBq c t N h E E') (hh : h ≤ h') : cBq c t N h' E E' := ⟨a.1, a.2.1, a.2.2.1, fun i τ A i' τ' A' q x1 x2 x3 x4 x5 => jQ_m (a.2.2.2 i τ A i' τ' A' q x1 x2 x3 x4 x5) hh⟩
section JPS
variable {c : tkC} {t : aK} {N h : Nat}
theorem j_call {E : pF} {E' : aF} (hE : cBq c t N h E E') {i i1 j1 : Nat} {τ τ1 : sg_S} {A A1 : aT} {q r : Int} (hi : i ≤ N) (h2 : sg_g τ 2 16 = A.1) (h0 : 0 ≤ A.1 ∧ A.1 ≤ 200) (eP : E i τ = some (i1, τ1, q)) (eF : E' i A = some (j1, A1, r)) : (j1 = i1 ∧ r = q ∧ i1 ≤ N ∧ sg_g τ1 2 16 = A1.1 ∧ A.1 ≤ A1.1 ∧ A1.1 ≤ 200) ∧ fB τ τ1 A.1 ∧ gr A A1 ∧ cTc A1 A.1 q ∧ jQ τ1 A1 A.1 q h := by
  obtain ⟨e1, e2, e3, e4⟩ := hE
  rcases e1 i τ A hi h2 h0 with ⟨x, -⟩ | ⟨i', τ', A', q', x1, x2, x3, x4, x5⟩
  · rw [x] at eP; cases eP
  · rw [x1] at eP
    rw [x2] at eF
    cases eP
    cases eF
    have g := e2 _ _ _ _ _ x2 h0
    exact ⟨⟨rfl, rfl, x3, x4.1, g.1.1, g.2.2.2⟩, x5, g.1, e3 _ _ _ _ _ x2 h0, e4 _ _ _ _ _ _ _ hi h2 h0 x1 x2⟩
theorem j_part {E : pF} {E' : aF} (hE : cBq c t N h E E') {i i1 j1 : Nat} {τ τ1 : sg_S} {A A1 : aT} {b n q r : Int} (hi : i ≤ N) (h2 : sg_g τ 2 16 = A.1) (h0 : 0 ≤ b ∧ A.1 ≤ 200) (hj : jO τ A b n h) (eP : E i τ = some (i1, τ1, q)) (eF : E' i A = some (j1, A1, r)) : (j1 = i1 ∧ r = q ∧ i1 ≤ N ∧ sg_g τ1 2 16 = A1.1 ∧ A.1 ≤ A1.1 ∧ A1.1 ≤ 200) ∧ jO τ1 A1 b n h ∧ ((b ≤ q ∧ q < A1.1 ∧ ¬ q = n) ∧ hNq A1 h q) ∧ jO (pAttach τ1 n q) (aKid A1 n q) b n h ∧ sg_g (pAttach τ1 n q) 2 16 = A1.1 := by
  have hb := hj.1
  obtain ⟨a1, a2, a3, a4, a5⟩ := j_call hE hi h2 (by omega) eP eF
  obtain ⟨o1, o2⟩ := jO_E hj a2 a3 a5
  refine ⟨a1, o1, o2, jO_r (jO_k o1 o2) (fun k => ⟨(p_at11 _ _ _ _).1, (p_at11 _ _ _ _).2.1⟩), ?_⟩
  rw [(p_at11 _ _ _ 0).2.2]; exact a1.2.2.2.1
theorem jCq_0 (τ : sg_S) (A : aT) : jCq τ A A.1 := fun k a b => by omega
theorem mk_e {i : Nat} {A : aT} {kd : Int} {r : aT × Int} (hm : aMk t i A kd = some r) : r = (aNew A kd (t.2.2 i) (t.2.1 i), A.1) := (mk_s hm).1
theorem if1 (p : Prop) [Decidable p] : h + (if p then 1 else 0) ≤ h + 1 := by split <;> omega
theorem nx_ok (hB : tkB c t N) {i : Nat} (hi : i ≤ N) (hk : tK c i ≤ 255 ∨ tK c i = 257 ∨ tK c i = 258 ∨ 261 ≤ tK c i) : i + 1 ≤ N := by
  have s := b_s hB hi
  have := b_lt hB hi (by
    rcases hk with q | q | q | q
    · have := s.2.2.2.2.mpr q; omega
    · have := s.2.1.mpr q; omega
    · have := s.2.2.1.mpr (Or.inl q); omega
    · have := s.2.2.1.mpr (Or.inr q); omega)
  omega
theorem jF_let {E : pF} {E' : aF} (hE : cBq c t N h E E') (hB : tkB c t N) {i : Nat} {τ : sg_S} {A : aT} {i' : Nat} {τ' : sg_S} {A' : aT} {q : Int} (hi : i ≤ N) (hk : tK c i = 262) (h2 : sg_g τ 2 16 = A.1) (h0 : 0 ≤ A.1 ∧ A.1 ≤ 200) (eP : pLet c E i τ = some (i', τ', q)) (eF : aLet t E' i A = some (i', A', q)) : jQ τ' A' A.1 q (h + 1) := by
  have hT := tF_let hE.2.1 hE.2.2.1 _ _ _ _ _ eF h0
  unfold pLet at eP
  split at eP
  · cases eP
  rename_i i1 τ1 k hc
  obtain ⟨k1, k2, k3, k4, k5, k6, k7⟩ := jO_new (kd := 2) (p := t.2.2 i) (w := t.2.1 i) (h := h) (jCq_0 τ A) (Int.le_refl _) h2 h0.1 hc
  subst k1
  subst k2
  split at eP
  rotate_left
  · cases eP
  rename_i hk1
  split at eP
  rotate_left
  · cases eP
  rename_i hk61
  split at eP
  · cases eP
  rename_i i2 τ2 a he
  split at eP
  rotate_left
  · cases eP
  rename_i hk2
  split at eP
  · cases eP
  rename_i i3 τ3 b hf
  cases eP
  unfold aLet at eF
  split at eF
  · cases eF
  rename_i A1 n hm
  cases mk_e hm
  split at eF
  rotate_left
  · cases eF
  split at eF
  rotate_left
  · cases eF
  split at eF
  · cases eF
  rename_i j2 A2 a' he'
  split at eF
  rotate_left
  · cases eF
  split at eF
  · cases eF
  rename_i j3 A3 b' hf'
  cases eF
  have o1 : jO (sx_putl τ1 17 200 A.1 (tW c (i + 1))) (aWd (aNew A 2 (t.2.2 i) (t.2.1 i)) A.1 (t.2.1 (i + 1))) A.1 A.1 h := jO_x k7 (fun k => ⟨sxl_c _ _ _ _ _ _ _, sxl_c _ _ _ _ _ _ _⟩) rfl (fun _ _ => ⟨rfl, rfl, rfl⟩) (fun _ hx => Or.inl hx)
  obtain ⟨⟨x1, x2, x3, x4, x5, x6⟩, -, -, o2, s2⟩ := j_part hE (nx_ok hB (nx_ok hB (nx_ok hB hi (by omega)) (by omega)) (by omega)) (by rw [sxl_c]; simp only [aWd_1, aNew_1]; exact k3) (by simp only [aWd_1, aNew_1]; omega) o1 he he'
  subst x1
  subst x2
  obtain ⟨⟨-, y2, y3, y4, y5, y6⟩, -, -, o3, s3⟩ := j_part hE (nx_ok hB x3 (by omega)) (by simp only [aKid_1]; exact s2) (by simp only [aKid_1]; omega) o2 hf hf'
  subst y2
  exact jQ_c o3 hT (by simp only [aKid_1]; exact s3) (by simp only [aKid_1]; omega) (if1 _)
theorem jF_if {E : pF} {E' : aF} (hE : cBq c t N h E E') (hB : tkB c t N) {i : Nat} {τ : sg_S} {A : aT} {i' : Nat} {τ' : sg_S} {A' : aT} {q : Int} (hi : i ≤ N) (hk : tK c i = 264) (h2 : sg_g τ 2 16 = A.1) (h0 : 0 ≤ A.1 ∧ A.1 ≤ 200) (eP : pIf c E i τ = some (i', τ', q)) (eF : aIf t E' i A = some (i', A', q)) : jQ τ' A' A.1 q (h + 1) := by
  have hT := tF_if hE.2.1 hE.2.2.1 _ _ _ _ _ eF h0
  unfold pIf at eP
  split at eP
  · cases eP
  rename_i i1 τ1 k hc
  obtain ⟨k1, k2, k3, k4, k5, k6, k7⟩ := jO_new (kd := 3) (p := t.2.2 i) (w := t.2.1 i) (h := h) (jCq_0 τ A) (Int.le_refl _) h2 h0.1 hc
  subst k1
  subst k2
  split at eP
  · cases eP
  rename_i i2 τ2 a he
  split at eP
  rotate_left
  · cases eP
  rename_i hk1
  split at eP
  · cases eP
  rename_i i3 τ3 b hf
  split at eP
  rotate_left
  · cases eP
  rename_i hk2
  split at eP
  · cases eP
  rename_i i4 τ4 e hg
  cases eP
  unfold aIf at eF
  split at eF
  · cases eF
  rename_i A1 n hm
  cases mk_e hm
  split at eF
  · cases eF
  rename_i j2 A2 a' he'
  split at eF
  rotate_left
  · cases eF
  split at eF
  · cases eF
  rename_i j3 A3 b' hf'
  split at eF
  rotate_left
  · cases eF
  split at eF
  · cases eF
  rename_i j4 A4 e' hg'
  cases eF
  obtain ⟨⟨x1, x2, x3, x4, x5, x6⟩, -, -, o2, s2⟩ := j_part hE (nx_ok hB hi (by omega)) (by simp only [aNew_1]; exact k3) (by simp only [aNew_1]; omega) k7 he he'
  subst x1
  subst x2
  obtain ⟨⟨y1, y2, y3, y4, y5, y6⟩, -, -, o3, s3⟩ := j_part hE (nx_ok hB x3 (by omega)) (by simp only [aKid_1]; exact s2) (by simp only [aKid_1]; omega) o2 hf hf'
  subst y1
  subst y2
  obtain ⟨⟨-, z2, z3, z4, z5, z6⟩, -, -, o4, s4⟩ := j_part hE (nx_ok hB y3 (by omega)) (by simp only [aKid_1]; exact s3) (by simp only [aKid_1]; omega) o3 hg hg'
  subst z2
  exact jQ_c o4 hT (by simp only [aKid_1]; exact s4) (by simp only [aKid_1]; omega) (if1 _)
end JPS
