/-! LET, IF, #, [ ] are read alike. -/
section LTF
variable {c : tkC} {t : aK} {N : Nat} {τ τ' : sg_S} {A A' : aT} {b n q l r : Int} {L R : List Int} {i : Nat} {K Pl W G U : Int}
/-- a part is read, and hangs on the open node -/
theorem ea_ok {E : pF} {E' : aF} (hE : sF c t N E E') (gE : gF E') (hi : i ≤ N) (h : bS τ A b n L R) (hs : sN τ n K Pl W G U) : (E i τ = none ∧ E' i A = none) ∨ ∃ i' τ' A' q, E i τ = some (i', τ', q) ∧ E' i A = some (i', A', q) ∧ i' ≤ N ∧ bS τ' A' b n L (q :: R) ∧ bS (pAttach τ' n q) (aKid A' n q) b n (L ++ [q]) R ∧ sN τ' n K Pl W G U ∧ sN (pAttach τ' n q) n K Pl W G U ∧ fB τ τ' b ∧ fB τ (pAttach τ' n q) b ∧ gr A A' := by
  have h2 := h.2.1
  rcases hE i τ A hi h.1 (by omega) with x | ⟨i', τ', A', q, x1, x2, x3, x4, x5⟩
  · exact Or.inl x
  · right
    have g := gE _ _ _ _ _ x2 (by omega)
    have b1 := bS_E h x4 x5 g.1
    have s1 := sN_f hs x5 h2.2.2.1
    obtain ⟨b2, f2, w2, v2⟩ := bS_at (A' := aKid A' n q) b1 (kid_o A' n q)
    exact ⟨i', τ', A', q, x1, x2, x3, b1, b2, s1, sN_at s1 w2 v2, fB_m x5 (by omega), fB_t (fB_m x5 (by omega)) f2, g.1⟩
/-- a node without { } is closed -/
theorem fin_ok (h : bS τ A b n L R) (hs : sN τ n K Pl W G U) (hK : K = kmp (A.2.1 n)) (hP : Pl = A.2.2.1 n) (hW : (A.2.1 n = 1 ∨ A.2.1 n = 2 ∨ A.2.1 n = 13) → W = uv (A.2.2.2.1 n)) (h15 : ¬ A.2.1 n = 15) (hL : A.2.2.2.2.1 n = L) (m : Int) : cS (pClose τ n m) A b (n :: R) ∧ fB τ (pClose τ n m) b := by
  have h2 := h.2.1
  obtain ⟨b6, s6, f6⟩ := cl_c (m := m) ⟨by omega, by omega⟩ h hs
  exact ⟨bS_c b6 (cN_o b6 s6 hK hP hW h15 hL) (fun x hx => by rw [hL] at hx; exact hx), f6⟩
theorem kn_k (A : aT) (n q : Int) : (aKid A n q).2.2.2.2.1 n = A.2.2.2.2.1 n ++ [q] := by simp only [aKid, aU_e]
theorem sF_if (hB : tkB c t N) {E : pF} {E' : aF} (hE : sF c t N E E') (gE : gF E') (hi : i ≤ N) (hk : tK c i = 264) (h : sg_g τ 2 16 = A.1) (h0 : 0 ≤ A.1 ∧ A.1 ≤ 200) : (pIf c E i τ = none ∧ aIf t E' i A = none) ∨ ∃ i' τ' A' q, pIf c E i τ = some (i', τ', q) ∧ aIf t E' i A = some (i', A', q) ∧ i' ≤ N ∧ cS τ' A' A.1 [q] ∧ fB τ τ' A.1 := by
  have hlt := b_lt hB hi (by have := (b_s hB hi).2.2.1.mpr (by omega); omega)
  unfold pIf aIf aMk
  by_cases c200 : A.1 = 200
  · left
    rw [cr_no h c200, if_pos c200]
    exact ⟨rfl, rfl⟩
  obtain ⟨τ1, e1, b1, s1, f1⟩ := cr_ok (i := i) (cS_0 h h0) (by omega) hB.1 3 (t.2.2 i) (t.2.1 i)
  rw [e1, if_neg c200]
  simp only
  rcases ea_ok hE gE (i := i + 1) (by omega) b1 s1 with ⟨x1, x2⟩ | ⟨i2, τ2, A2, a, x1, x2, x3, -, b2, -, s2, -, f2, g2⟩
  · left; rw [x1, x2]; exact ⟨rfl, rfl⟩
  rw [x1, x2]
  simp only
  by_cases c2 : tK c i2 = 265
  · simp only [c2, if_true, (b_then hB x3).mpr c2]
    have hlt2 := b_lt hB x3 (by have := (b_s hB x3).2.2.1.mpr (by omega); omega)
    rcases ea_ok hE gE (i := i2 + 1) (by omega) b2 s2 with ⟨y1, y2⟩ | ⟨i3, τ3, A3, e, y1, y2, y3, -, b3, -, s3, -, f3, g3⟩
    · left; rw [y1, y2]; exact ⟨rfl, rfl⟩
    rw [y1, y2]
    simp only
    by_cases c3 : tK c i3 = 266
    · simp only [c3, if_true, (b_else hB y3).mpr c3]
      have hlt3 := b_lt hB y3 (by have := (b_s hB y3).2.2.1.mpr (by omega); omega)
      rcases ea_ok hE gE (i := i3 + 1) (by omega) b3 s3 with ⟨z1, z2⟩ | ⟨i4, τ4, A4, u, z1, z2, z3, -, b4, -, s4, -, f4, g4⟩
      · left; rw [z1, z2]; exact ⟨rfl, rfl⟩
      right
      rw [z1, z2]
      have k2 := g2.2 A.1 (by simp only [aNew_1]; omega)
      have k3 := g3.2 A.1 (by have := b2.2.1; omega)
      have k4 := g4.2 A.1 (by have := b3.2.1; omega)
      have ekd : (aKid A4 A.1 u).2.1 A.1 = 3 := by simp only [aKid]; rw [k4.1]; simp only [aKid]; rw [k3.1]; simp only [aKid]; rw [k2.1]; simp only [aNew, aU_e]
      have epl : (aKid A4 A.1 u).2.2.1 A.1 = t.2.2 i := by simp only [aKid]; rw [k4.2.1]; simp only [aKid]; rw [k3.2.1]; simp only [aKid]; rw [k2.2.1]; simp only [aNew, aU_e]
      have eks : (aKid A4 A.1 u).2.2.2.2.1 A.1 = [] ++ [a] ++ [e] ++ [u] := by rw [kn_k, k4.2.2.2.1, kn_k, k3.2.2.2.1, kn_k, k2.2.2.2.1]; simp only [aNew, aU_e]
      obtain ⟨cs, ff⟩ := fin_ok b4 s4 (by rw [ekd, hk]; rfl) (by rw [epl]; exact ((hB.2.2.1.1 i hi).2).symm) (fun q => by rw [ekd] at q; omega) (by rw [ekd]; omega) eks A.1
      exact ⟨i4, _, _, _, rfl, rfl, z3, cs, fB_t (fB_t (fB_t (fB_t f1 f2) f3) f4) ff⟩
    · left
      have c3' : ¬ aWo t i3 339965 = true := fun x => c3 ((b_else hB y3).mp x)
      simp only [if_neg c3, if_neg c3', and_self]
  · left
    have c2' : ¬ aWo t i2 1293014 = true := fun x => c2 ((b_then hB x3).mp x)
    simp only [if_neg c2, if_neg c2', and_self]
theorem sF_let (hB : tkB c t N) {E : pF} {E' : aF} (hE : sF c t N E E') (gE : gF E') (hi : i ≤ N) (hk : tK c i = 262) (h : sg_g τ 2 16 = A.1) (h0 : 0 ≤ A.1 ∧ A.1 ≤ 200) : (pLet c E i τ = none ∧ aLet t E' i A = none) ∨ ∃ i' τ' A' q, pLet c E i τ = some (i', τ', q) ∧ aLet t E' i A = some (i', A', q) ∧ i' ≤ N ∧ cS τ' A' A.1 [q] ∧ fB τ τ' A.1 := by
  have hlt := b_lt hB hi (by have := (b_s hB hi).2.2.1.mpr (by omega); omega)
  unfold pLet aLet aMk
  by_cases c200 : A.1 = 200
  · left
    rw [cr_no h c200, if_pos c200]
    exact ⟨rfl, rfl⟩
  obtain ⟨τ1, e1, b1, s1, f1⟩ := cr_ok (i := i) (cS_0 h h0) (by omega) hB.1 2 (t.2.2 i) (t.2.1 i)
  rw [e1, if_neg c200]
  simp only
  by_cases d1 : tK c (i + 1) = 258
  · simp only [d1, if_true, (b_nm hB (i := i + 1) (by omega)).mpr d1]
    have hlt1 := b_lt hB (i := i + 1) (by omega) (by have := (b_s hB (i := i + 1) (by omega)).2.2.1.mpr (by omega); omega)
    by_cases d2 : tK c (i + 1 + 1) = 61
    · have d2' := (b_sg hB (i := i + 1 + 1) (ch := 61) (by omega) (by decide)).mpr d2
      have hlt2 := b_lt hB (i := i + 1 + 1) (by omega) (by have := sg_t d2'; omega)
      simp only [d2, if_true, show aSg t (i + 2) 61 = true from d2']
      have hkk : 0 ≤ A.1 ∧ A.1 < 200 := by omega
      rw [plx_in hkk]
      have hA' : (aWd (aNew A 2 (t.2.2 i) (t.2.1 i)) A.1 (t.2.1 (i + 1))).1 = (aNew A 2 (t.2.2 i) (t.2.1 i)).1 ∧ ∀ k, ¬ k = A.1 → (aWd (aNew A 2 (t.2.2 i) (t.2.1 i)) A.1 (t.2.1 (i + 1))).2.1 k = (aNew A 2 (t.2.2 i) (t.2.1 i)).2.1 k ∧ (aWd (aNew A 2 (t.2.2 i) (t.2.1 i)) A.1 (t.2.1 (i + 1))).2.2.1 k = (aNew A 2 (t.2.2 i) (t.2.1 i)).2.2.1 k ∧ (aWd (aNew A 2 (t.2.2 i) (t.2.1 i)) A.1 (t.2.1 (i + 1))).2.2.2.1 k = (aNew A 2 (t.2.2 i) (t.2.1 i)).2.2.2.1 k ∧ (aWd (aNew A 2 (t.2.2 i) (t.2.1 i)) A.1 (t.2.1 (i + 1))).2.2.2.2.1 k = (aNew A 2 (t.2.2 i) (t.2.1 i)).2.2.2.2.1 k ∧ (aWd (aNew A 2 (t.2.2 i) (t.2.1 i)) A.1 (t.2.1 (i + 1))).2.2.2.2.2 k = (aNew A 2 (t.2.2 i) (t.2.1 i)).2.2.2.2.2 k := ⟨rfl, fun k hk => by simp only [aWd, aU_n _ _ hk, and_self]⟩
      have b1' : bS (sg_wl τ1 17 A.1 (tW c (i + 1))) (aWd (aNew A 2 (t.2.2 i) (t.2.1 i)) A.1 (t.2.1 (i + 1))) A.1 A.1 [] [] := by
        obtain ⟨q1, q2, q3, q4, q5, q6⟩ := bS_A b1 hA'
        refine ⟨q1, q2, q3, fun k a0 a1 a2 => ⟨cN_x (q4 k a0 a1 a2).1 ⟨rfl, rfl, rfl, rfl, rfl⟩ (fun _ _ => rfl) ?_ (fun x _ => ⟨rfl, rfl, ?_⟩), (q4 k a0 a1 a2).2⟩, q5, q6⟩
        · rw [sg_gwl, if_neg (fun e => a2 e.2)]
        · rw [sg_gwl, if_neg (fun e => absurd e.1 (by decide))]
      have s1' : sN (sg_wl τ1 17 A.1 (tW c (i + 1))) A.1 (tK c i) (tPl c i) (tW c (i + 1)) 0 (-1) := ⟨s1.1, s1.2.1, by rw [sg_gwl, if_pos ⟨rfl, rfl⟩]; exact tW_r hB hlt1 (Or.inl d1), s1.2.2.2.1, s1.2.2.2.2⟩
      have f1' : fB τ (sg_wl τ1 17 A.1 (tW c (i + 1))) A.1 := fB_wl f1 (by decide) (Int.le_refl _)
      rcases ea_ok hE gE (i := i + 1 + 1 + 1) (by omega) b1' s1' with ⟨x1, x2⟩ | ⟨i2, τ2, A2, a, x1, x2, x3, -, b2, -, s2, -, f2, g2⟩
      · left
        rw [show i + 1 + 1 + 1 = i + 3 by omega] at x1 x2
        rw [show i + 1 + 1 + 1 = i + 3 by omega, x1, x2]; exact ⟨rfl, rfl⟩
      rw [show i + 1 + 1 + 1 = i + 3 by omega] at x1 x2
      rw [show i + 1 + 1 + 1 = i + 3 by omega, x1, x2]
      simp only
      by_cases c2 : tK c i2 = 263
      · simp only [c2, if_true, (b_in hB x3).mpr c2]
        have hlt3 := b_lt hB x3 (by have := (b_s hB x3).2.2.1.mpr (by omega); omega)
        rcases ea_ok hE gE (i := i2 + 1) (by omega) b2 s2 with ⟨y1, y2⟩ | ⟨i3, τ3, A3, e, y1, y2, y3, -, b3, -, s3, -, f3, g3⟩
        · left; rw [y1, y2]; exact ⟨rfl, rfl⟩
        right
        rw [y1, y2]
        have k2 := g2.2 A.1 (by simp only [aWd_1, aNew_1]; omega)
        have k3 := g3.2 A.1 (by have := b2.2.1; omega)
        have ekd : (aKid A3 A.1 e).2.1 A.1 = 2 := by simp only [aKid]; rw [k3.1]; simp only [aKid]; rw [k2.1]; simp only [aWd, aNew, aU_e]
        have epl : (aKid A3 A.1 e).2.2.1 A.1 = t.2.2 i := by simp only [aKid]; rw [k3.2.1]; simp only [aKid]; rw [k2.2.1]; simp only [aWd, aNew, aU_e]
        have ewd : (aKid A3 A.1 e).2.2.2.1 A.1 = t.2.1 (i + 1) := by simp only [aKid]; rw [k3.2.2.1]; simp only [aKid]; rw [k2.2.2.1]; simp only [aWd, aU_e]
        have eks : (aKid A3 A.1 e).2.2.2.2.1 A.1 = [] ++ [a] ++ [e] := by rw [kn_k, k3.2.2.2.1, kn_k, k2.2.2.2.1]; simp only [aWd, aNew, aU_e]
        obtain ⟨cs, ff⟩ := fin_ok b3 s3 (by rw [ekd, hk]; rfl) (by rw [epl]; exact ((hB.2.2.1.1 i hi).2).symm) (fun q => by rw [ewd]; exact (tok_u hB.1 hB.2.2.1 hlt1 (Or.inl d1)).symm) (by rw [ekd]; omega) eks A.1
        exact ⟨i3, _, _, _, rfl, rfl, y3, cs, fB_t (fB_t (fB_t f1' f2) f3) ff⟩
      · left
        have c2' : ¬ aWo t i2 374 = true := fun x => c2 ((b_in hB x3).mp x)
        simp only [if_neg c2, if_neg c2', and_self]
    · left
      have d2' : ¬ aSg t (i + 2) 61 = true := fun x => d2 ((b_sg hB (i := i + 1 + 1) (by omega) (by decide)).mp x)
      simp only [if_neg d2, if_neg d2', and_self]
  · left
    have d1' : ¬ aNm t (i + 1) = true := fun x => d1 ((b_nm hB (by omega)).mp x)
    simp only [if_neg d1, if_neg d1', and_self]
/-- # UNARY -/
theorem sF_sharp (hB : tkB c t N) {E : pF} {E' : aF} (hE : sF c t N E E') (gE : gF E') (hi : i ≤ N) (hk : tK c i = 35) (h : sg_g τ 2 16 = A.1) (h0 : 0 ≤ A.1 ∧ A.1 ≤ 200) : ((match pCreate c i τ with
    | none => none
    | some (i1, τ1, k) => match E i1 τ1 with
      | none => none
      | some (i2, τ2, r) => some (i2, pClose (pAttach τ2 k r) k k, k)) = none ∧ (match aMk t i A 11 with
    | none => none
    | some (A1, n) => match E' (i + 1) A1 with
      | none => none
      | some (i2, A2, r) => some (i2, aKid A2 n r, n)) = none) ∨ ∃ i' τ' A' q, (match pCreate c i τ with
    | none => none
    | some (i1, τ1, k) => match E i1 τ1 with
      | none => none
      | some (i2, τ2, r) => some (i2, pClose (pAttach τ2 k r) k k, k)) = some (i', τ', q) ∧ (match aMk t i A 11 with
    | none => none
    | some (A1, n) => match E' (i + 1) A1 with
      | none => none
      | some (i2, A2, r) => some (i2, aKid A2 n r, n)) = some (i', A', q) ∧ i' ≤ N ∧ cS τ' A' A.1 [q] ∧ fB τ τ' A.1 := by
  have hlt := b_lt hB hi (by have := (b_s hB hi).2.2.2.2.mpr (by omega); omega)
  unfold aMk
  by_cases c200 : A.1 = 200
  · left
    rw [cr_no h c200, if_pos c200]
    exact ⟨rfl, rfl⟩
  obtain ⟨τ1, e1, b1, s1, f1⟩ := cr_ok (i := i) (cS_0 h h0) (by omega) hB.1 11 (t.2.2 i) (t.2.1 i)
  rw [e1, if_neg c200]
  simp only
  rcases ea_ok hE gE (i := i + 1) (by omega) b1 s1 with ⟨x1, x2⟩ | ⟨i2, τ2, A2, a, x1, x2, x3, -, b2, -, s2, -, f2, g2⟩
  · left; rw [x1, x2]; exact ⟨rfl, rfl⟩
  right
  rw [x1, x2]
  have k2 := g2.2 A.1 (by simp only [aNew_1]; omega)
  have ekd : (aKid A2 A.1 a).2.1 A.1 = 11 := by simp only [aKid]; rw [k2.1]; simp only [aNew, aU_e]
  have epl : (aKid A2 A.1 a).2.2.1 A.1 = t.2.2 i := by simp only [aKid]; rw [k2.2.1]; simp only [aNew, aU_e]
  have eks : (aKid A2 A.1 a).2.2.2.2.1 A.1 = [] ++ [a] := by rw [kn_k, k2.2.2.2.1]; simp only [aNew, aU_e]
  obtain ⟨cs, ff⟩ := fin_ok b2 s2 (by rw [ekd, hk]; rfl) (by rw [epl]; exact ((hB.2.2.1.1 i hi).2).symm) (fun q => by rw [ekd] at q; omega) (by rw [ekd]; omega) eks A.1
  exact ⟨i2, _, _, _, rfl, rfl, x3, cs, fB_t (fB_t f1 f2) ff⟩
end LTF
