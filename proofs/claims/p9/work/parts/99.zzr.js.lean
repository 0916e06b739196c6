/-! Ranges and levels: { }, all levels. -/
section JSS
variable {c : tkC} {t : aK} {N h : Nat}
theorem j_genL (hB : tkB c t N) {E : pF} {E' : aF} (hE : cBq c t N h E E') {b n : Int} : ∀ (m : Nat) (i : Nat) (τ : sg_S) (A : aT) (i1 : Nat) (τ1 : sg_S) (j1 : Nat) (A1 : aT), i ≤ N → sg_g τ 2 16 = A.1 → 0 ≤ b ∧ A.1 ≤ 200 → jO τ A b n h → (A.2.2.2.2.1 n).length = 1 + (A.2.2.2.2.2 n).length → pGenL c E n (m + 1) i τ = some (i1, τ1) → aGenL t E' n m i A = some (j1, A1) → j1 = i1 ∧ i1 ≤ N ∧ jO τ1 A1 b n h ∧ sg_g τ1 2 16 = A1.1 ∧ A1.1 ≤ 200
  | 0, i, τ, A, i1, τ1, j1, A1, hi, h2, h0, hj, hkl, eP, eF => by unfold aGenL at eF; cases eF
  | m + 1, i, τ, A, i1, τ1, j1, A1, hi, h2, h0, hj, hkl, eP, eF => by
    unfold pGenL at eP
    unfold aGenL at eF
    split at eP
    rotate_left
    · cases eP
    rename_i hk1
    split at eP
    rotate_left
    · cases eP
    rename_i hk2
    split at eP
    · cases eP
    rename_i i2 τ2 r he
    split at eF
    rotate_left
    · cases eF
    split at eF
    rotate_left
    · cases eF
    split at eF
    · cases eF
    rename_i j2 A2 r' he'
    have nA := hj.1
    have o1 : jO τ (aGn A n (t.2.1 i) (t.2.2 i)) b n h := jO_x hj (fun _ => ⟨rfl, rfl⟩) rfl (fun x hx => by simp only [aGn, aU_n _ _ hx, and_self]) (fun _ hx => Or.inl hx)
    have z : 0 ≤ (aGn A n (t.2.1 i) (t.2.2 i)).1 ∧ (aGn A n (t.2.1 i) (t.2.2 i)).1 ≤ 200 := by simp only [aGn]; omega
    have g := hE.2.1 _ _ _ _ _ he' z
    obtain ⟨⟨x1, x2, x3, x4, x5, x6⟩, o2, o3, -, -⟩ := j_part hE (nx_ok hB (nx_ok hB hi (by omega)) (by omega)) (show sg_g τ 2 16 = (aGn A n (t.2.1 i) (t.2.2 i)).1 from h2) (by simp only [aGn]; omega) o1 he he'
    subst x1
    subst x2
    have kn := (g.1.2 n (by simp only [aGn]; omega))
    have kl : ((aKid A2 n r').2.2.2.2.1 n).length = 1 + ((aKid A2 n r').2.2.2.2.2 n).length := by
      simp only [aKid, aU_e, List.length_append, List.length_cons, List.length_nil]
      rw [kn.2.2.2.1, kn.2.2.2.2]
      simp only [aGn, aU_e, List.length_append, List.length_cons, List.length_nil]
      omega
    let τ3 := sx_put (pAttach (sx_put (sx_putl τ2 18 200 r' (tW c i)) 15 200 r' (tPl c i)) n r') 13 200 n (5 - ((m + 1 : Nat) : Int))
    have e3 : ∀ v, ∀ j, sg_g (sx_put (pAttach (sx_put (sx_putl τ2 18 200 r' (tW c i)) 15 200 r' (tPl c i)) n r') 13 200 n v) 11 j = sg_g τ2 11 j ∧ sg_g (sx_put (pAttach (sx_put (sx_putl τ2 18 200 r' (tW c i)) 15 200 r' (tPl c i)) n r') 13 200 n v) 12 j = sg_g τ2 12 j ∧ sg_g (sx_put (pAttach (sx_put (sx_putl τ2 18 200 r' (tW c i)) 15 200 r' (tPl c i)) n r') 13 200 n v) 2 16 = sg_g τ2 2 16 := fun v j => by
      obtain ⟨y1, y2, y3⟩ := p_at11 (sx_put (sx_putl τ2 18 200 r' (tW c i)) 15 200 r' (tPl c i)) n r' j
      refine ⟨?_, ?_, ?_⟩
      · rw [sxp_c _ _ _ _ _ _ _ (by decide), y1, sxp_c _ _ _ _ _ _ _ (by decide), sxl_c]
      · rw [sxp_c _ _ _ _ _ _ _ (by decide), y2, sxp_c _ _ _ _ _ _ _ (by decide), sxl_c]
      · rw [sxp_c _ _ _ _ _ _ _ (by decide), y3, sxp_c _ _ _ _ _ _ _ (by decide), sxl_c]
    have o4 := jO_k o2 o3
    have bs := b_sg hB x3 (ch := 44) (by decide)
    by_cases ck : tK c j2 = 44
    · rw [if_pos ck] at eP
      rw [if_pos ⟨bs.mpr ck, kl⟩] at eF
      exact j_genL hB hE m _ _ _ _ _ _ _ (nx_ok hB x3 (by omega)) (by rw [(e3 _ 0).2.2]; exact x4) (by simp only [aKid_1]; omega) (jO_r o4 (fun j => ⟨(e3 _ j).1, (e3 _ j).2.1⟩)) kl eP eF
    · rw [if_neg ck] at eP
      rw [if_neg (fun z => ck (bs.mp z.1))] at eF
      cases eP
      cases eF
      exact ⟨rfl, x3, jO_r o4 (fun j => ⟨(e3 _ j).1, (e3 _ j).2.1⟩), by rw [(e3 _ 0).2.2]; exact x4, by simp only [aKid_1]; exact x6⟩
theorem jF_each (hB : tkB c t N) {E : pF} {E' : aF} (hE : cBq c t N h E E') {i : Nat} {τ : sg_S} {A : aT} {i' : Nat} {τ' : sg_S} {A' : aT} {q : Int} (hi : i + 1 ≤ N) (h2 : sg_g τ 2 16 = A.1) (h0 : 0 ≤ A.1 ∧ A.1 ≤ 200) (eP : pEach c E i τ = some (i', τ', q)) (eF : aEach t E' i A = some (i', A', q)) : jQ τ' A' A.1 q (h + 1) := by
  have hT := tF_each hE.2.1 hE.2.2.1 _ _ _ _ _ eF h0
  unfold pEach at eP
  split at eP
  · cases eP
  rename_i i1 τ1 k hc
  obtain ⟨k1, k2, k3, k4, k5, k6, k7⟩ := jO_new (kd := 15) (p := t.2.2 i) (w := t.2.1 i) (h := h) (jCq_0 τ A) (Int.le_refl _) h2 h0.1 hc
  subst k1
  subst k2
  split at eP
  · cases eP
  rename_i i2 τ2 bd he
  split at eP
  rotate_left
  · cases eP
  rename_i hk1
  split at eP
  · cases eP
  rename_i i3 τ3 hg
  unfold aEach at eF
  split at eF
  · cases eF
  rename_i A1 n hm
  cases mk_e hm
  split at eF
  · cases eF
  rename_i j2 A2 bd' he'
  split at eF
  rotate_left
  · cases eF
  have z0 : 0 ≤ (aNew A 15 (t.2.2 i) (t.2.1 i)).1 ∧ (aNew A 15 (t.2.2 i) (t.2.1 i)).1 ≤ 200 := by simp only [aNew_1]; omega
  have g0 := hE.2.1 _ _ _ _ _ he' z0
  have kn := g0.1.2 A.1 (by simp only [aNew_1]; omega)
  obtain ⟨⟨x1, x2, x3, x4, x5, x6⟩, o2, o3, -, -⟩ := j_part hE hi (by simp only [aNew_1]; exact k3) (by simp only [aNew_1]; omega) k7 he he'
  subst x1
  subst x2
  have gl : ((aKid A2 A.1 bd').2.2.2.2.2 A.1).length = 0 := by
    simp only [aKid]; rw [kn.2.2.2.2]; simp only [aNew, aU_e]; rfl
  have kl : ((aKid A2 A.1 bd').2.2.2.2.1 A.1).length = 1 + ((aKid A2 A.1 bd').2.2.2.2.2 A.1).length := by
    rw [gl]
    simp only [aKid, aU_e, List.length_append, List.length_cons, List.length_nil]
    rw [kn.2.2.2.1]; simp only [aNew, aU_e]; rfl
  unfold aGens at eF
  rw [gl] at eF
  split at eF
  · cases eF
  rename_i j3 A3 hg'
  obtain ⟨y1, y2, y3, y4, y5⟩ := j_genL hB hE 4 _ _ _ _ _ _ _ (nx_ok hB x3 (by omega)) (by simp only [aKid_1]; exact x4) (by simp only [aKid_1]; omega) (jO_k o2 o3) kl hg hg'
  subst y1
  have fin : ∀ (i4 : Nat) (τ4 : sg_S) (A4 : aT), jO τ4 A4 A.1 A.1 h → sg_g τ4 2 16 = A4.1 → A4.1 ≤ 200 → pEachE c A.1 bd' i4 τ4 = some (i', τ', q) → A' = A4 → jQ τ' A' A.1 q (h + 1) := fun i4 τ4 A4 w1 w2 w3 w4 w5 => by
    unfold pEachE at w4
    split at w4
    rotate_left
    · cases w4
    cases w4
    subst w5
    have a11 := fun j => p_at11 τ4 A.1 bd' j
    exact jQ_c (jO_r w1 (fun j => ⟨(a11 j).1, (a11 j).2.1⟩)) hT (by rw [(a11 0).2.2]; exact w2) ⟨h0.1, w3⟩ (if1 _)
  unfold aGrd at eF
  have bs := b_sg hB y2 (ch := 124) (by decide)
  by_cases ck : tK c j3 = 124
  · rw [if_pos ck] at eP
    rw [if_pos (bs.mpr ck)] at eF
    split at eP
    · cases eP
    rename_i i4 τ4 g hh
    split at eF
    · cases eF
    rename_i j4 A4 g' hh'
    obtain ⟨⟨z1, z2, z3, z4, z5, z6⟩, p2, p3, -, -⟩ := j_part hE (nx_ok hB y2 (by omega)) y4 ⟨h0.1, y5⟩ y3 hh hh'
    subst z1
    subst z2
    have e3 : ∀ j, sg_g (sx_put (pAttach τ4 A.1 g') 14 200 A.1 g') 11 j = sg_g τ4 11 j ∧ sg_g (sx_put (pAttach τ4 A.1 g') 14 200 A.1 g') 12 j = sg_g τ4 12 j ∧ sg_g (sx_put (pAttach τ4 A.1 g') 14 200 A.1 g') 2 16 = sg_g τ4 2 16 := fun j => by
      obtain ⟨y1, y2, y3⟩ := p_at11 τ4 A.1 g' j
      exact ⟨by rw [sxp_c _ _ _ _ _ _ _ (by decide), y1], by rw [sxp_c _ _ _ _ _ _ _ (by decide), y2], by rw [sxp_c _ _ _ _ _ _ _ (by decide), y3]⟩
    unfold aEnd at eF
    split at eF
    rotate_left
    · cases eF
    have eA : A' = aKid A4 A.1 g' := by cases eF; rfl
    exact fin _ _ _ (jO_r (jO_k p2 p3) (fun j => ⟨(e3 j).1, (e3 j).2.1⟩)) (by rw [(e3 0).2.2]; simp only [aKid_1]; exact z4) (by simp only [aKid_1]; exact z6) eP eA
  · rw [if_neg ck] at eP
    rw [if_neg (fun z => ck (bs.mp z))] at eF
    unfold aEnd at eF
    split at eF
    rotate_left
    · cases eF
    have eA : A' = A3 := by cases eF; rfl
    exact fin _ _ _ y3 y4 y5 eP eA
theorem jF_atm (hB : tkB c t N) {w : Bool} {E : pF} {E' : aF} {H : Nat} (gE : gF E') (tE : tF E') (hE : w = true → cBq c t N h E E' ∧ h + 1 ≤ H) : jF N H (pAtom c w E) (aAtm t w E') := by
  intro i τ A i' τ' A' q hi h2 h0 eP eF
  have hT := tF_atm gE tE _ _ _ _ _ eF h0
  have bs := b_s hB hi
  have b40 := b_sg hB hi (ch := 40) (by decide)
  have b91 := b_sg hB hi (ch := 91) (by decide)
  have b123 := b_sg hB hi (ch := 123) (by decide)
  unfold pAtom at eP
  unfold aAtm at eF
  by_cases c1 : tK c i = 257
  · rw [if_pos c1] at eP
    rw [if_pos (bs.2.1.mpr c1)] at eF
    split at eF
    · cases eF
    rename_i A1 n hm
    cases mk_e hm
    cases eF
    obtain ⟨k1, k2, k3, k4, k5, k6, k7⟩ := jO_new (kd := 0) (p := t.2.2 i) (w := t.2.1 i) (h := H) (jCq_0 τ A) (Int.le_refl _) h2 h0.1 eP
    exact jQ_l k7 hT k5.1 (by rw [k5.2]; simp only [aNew_1]; omega) (by simp only [aNew, aU_e]) (by simp only [aNew, aU_e]; omega)
  · rw [if_neg c1] at eP
    rw [if_neg (fun z => c1 (bs.2.1.mp z))] at eF
    by_cases c2 : tK c i = 258 ∨ 267 ≤ tK c i ∧ tK c i ≤ 278
    · rw [if_pos c2] at eP
      rw [if_pos (bs.2.2.1.mpr (by omega))] at eF
      exact jF_word hB gE tE hE hi c2 h2 h0 eP eF
    · rw [if_neg c2] at eP
      split at eP
      rotate_left
      · cases eP
      rename_i hw
      obtain ⟨hE1, hE2⟩ := hE hw
      by_cases c40 : tK c i = 40
      · rw [if_pos c40] at eP
        rw [if_neg (fun z => by have := bs.2.2.1.mp z; omega), if_pos (b40.mpr c40), if_pos hw] at eF
        unfold pPar at eP
        unfold aPar at eF
        split at eP
        · cases eP
        rename_i i1 τ1 r he
        split at eP
        rotate_left
        · cases eP
        split at eF
        · cases eF
        rename_i j1 A1 r' he'
        split at eF
        rotate_left
        · cases eF
        obtain ⟨⟨x1, x2, x3, x4, x5, x6⟩, -, -, -, q1⟩ := j_call hE1 (nx_ok hB hi (by omega)) h2 h0 he he'
        cases eP
        cases eF
        exact jQ_m q1 (by omega)
      · rw [if_neg c40] at eP
        by_cases c91 : tK c i = 91
        · rw [if_pos c91] at eP
          rw [if_neg (fun z => by have := bs.2.2.1.mp z; omega), if_neg (fun z => c40 (b40.mp z)), if_pos (b91.mpr c91), if_pos hw] at eF
          exact jQ_m (jF_rw hB hE1 (nx_ok hB hi (by omega)) h2 h0 eP eF hT) hE2
        · rw [if_neg c91] at eP
          split at eP
          rotate_left
          · cases eP
          rename_i c123
          rw [if_neg (fun z => by have := bs.2.2.1.mp z; omega), if_neg (fun z => c40 (b40.mp z)), if_neg (fun z => c91 (b91.mp z)), if_pos (b123.mpr c123), if_pos hw] at eF
          exact jQ_m (jF_each hB hE1 (nx_ok hB hi (by omega)) h2 h0 eP eF) hE2
theorem jF_un (hB : tkB c t N) {w : Bool} {E U : pF} {E' U' : aF} {H : Nat} (sE : sF c t N E E') (gE : gF E') (tE : tF E') (gU : gF U') (tU : tF U') (hE : w = true → cBq c t N h E E' ∧ h + 1 ≤ H) (hU : w = true → cBq c t N h U U') : jF N H (pUnL c w E U) (aUn t w E' U') := by
  intro i τ A i' τ' A' q hi h2 h0 eP eF
  have hT := tF_un gE gU tE tU _ _ _ _ _ eF h0
  have bs := b_sg hB hi (ch := 35) (by decide)
  unfold pUnL pUn at eP
  unfold aUn at eF
  by_cases ck : tK c i = 35
  · rw [if_pos ck] at eP
    rw [if_pos (bs.mpr ck)] at eF
    split at eP
    rotate_left
    · cases eP
    rename_i hw
    rw [if_pos hw] at eF
    split at eP
    · cases eP
    rename_i i1 τ1 k hc
    split at eP
    · cases eP
    rename_i i2 τ2 r hs
    split at eF
    · cases eF
    rename_i A1 n hm
    split at eF
    · cases eF
    rename_i j2 A2 r' hf
    cases eP
    have en : n = q := by cases eF; rfl
    subst en
    have eA : A' = aKid A2 n r' := by cases eF; rfl
    subst eA
    obtain ⟨-, y⟩ := jF_sharp hB (hU hw) (nx_ok hB hi (by omega)) h2 h0 hc hs hm hf hT
    exact jQ_m y (hE hw).2
  · rw [if_neg ck] at eP
    rw [if_neg (fun z => ck (bs.mp z))] at eF
    unfold pItem at eP
    unfold aItm at eF
    split at eP
    · cases eP
    rename_i i1 τ1 l e1
    split at eF
    · cases eF
    rename_i j1 A1 l' e2
    unfold aBeh at eF
    have cA : cBq c t N H (pAtom c w E) (aAtm t w E') := ⟨sF_atm hB sE gE, gF_atm gE, tF_atm gE tE, jF_atm hB gE tE hE⟩
    exact jF_then cA (G := pItL c w E 201) (G' := fun l i A => aBehL t w E' (201 - A.1).toNat l i A) (fun l i τ A b i' τ' A' q x1 x2 x3 x4 x5 x6 x7 => jL_itL hB (fun hw => cB_m (hE hw).1 (by have := (hE hw).2; omega)) 201 _ l i τ A b i' τ' A' q x1 x2 x3 x4 x5 (by omega) (Nat.le_refl _) x6 x7) hi h2 h0 e1 e2 eP eF
theorem q_C (hB : tkB c t N) : ∀ i, i ≤ N → ((tK c i = 60 ∨ tK c i = 61) ∧ ∃ kd, aqC t i = some kd ∧ (4 ≤ kd ∧ kd ≤ 10)) ∨ (¬ (tK c i = 60 ∨ tK c i = 61) ∧ aqC t i = none) := by
  intro i hi
  have b60 := b_sg hB hi (ch := 60) (by decide)
  have b61 := b_sg hB hi (ch := 61) (by decide)
  by_cases c60 : tK c i = 60
  · left
    refine ⟨Or.inl c60, 4, ?_, by omega⟩
    unfold aqC
    rw [if_pos (b60.mpr c60)]
  · by_cases c61 : tK c i = 61
    · left
      refine ⟨Or.inr c61, 5, ?_, by omega⟩
      unfold aqC
      rw [if_neg (fun z => c60 (b60.mp z)), if_pos (b61.mpr c61)]
    · right
      refine ⟨by omega, ?_⟩
      unfold aqC
      rw [if_neg (fun z => c60 (b60.mp z)), if_neg (fun z => c61 (b61.mp z))]
theorem jF_ex (hB : tkB c t N) {w : Bool} {E U : pF} {E' U' : aF} {H : Nat} (sE : sF c t N E E') (gE : gF E') (tE : tF E') (sU : sF c t N U U') (gU : gF U') (tU : tF U') (hE : w = true → cBq c t N h E E' ∧ h + 1 ≤ H) (hU : w = true → cBq c t N h U U') : jF N H (pExpr c w E (pCmL c w E U)) (aEx t w E' U') := by
  intro i τ A i' τ' A' q hi h2 h0 eP eF
  have bl := b_let hB hi
  have bi := b_if hB hi
  unfold pExpr at eP
  unfold aEx at eF
  by_cases c1 : tK c i = 262
  · rw [if_pos c1] at eP
    rw [if_pos (bl.mpr c1)] at eF
    split at eP
    rotate_left
    · cases eP
    rename_i hw
    rw [if_pos hw] at eF
    exact jQ_m (jF_let (hE hw).1 hB hi c1 h2 h0 eP eF) (hE hw).2
  · rw [if_neg c1] at eP
    rw [if_neg (fun z => c1 (bl.mp z))] at eF
    by_cases c2 : tK c i = 264
    · rw [if_pos c2] at eP
      rw [if_pos (bi.mpr c2)] at eF
      split at eP
      rotate_left
      · cases eP
      rename_i hw
      rw [if_pos hw] at eF
      exact jQ_m (jF_if (hE hw).1 hB hi c2 h2 h0 eP eF) (hE hw).2
    · rw [if_neg c2] at eP
      rw [if_neg (fun z => c2 (bi.mp z))] at eF
      have u : cBq c t N H (pUnL c w E U) (aUn t w E' U') := ⟨sF_un hB sE gE sU gU, gF_un gE gU, tF_un gE gU tE tU, jF_un hB sE gE tE gU tU hE hU⟩
      have p : cBq c t N H (pRow c pqP (pUnL c w E U)) (aRow t (aqP t) (aUn t w E' U')) := ⟨sF_row hB u.1 u.2.1 (q_P hB), gF_row u.2.1, tF_row qF_P u.2.1 u.2.2.1, jF_row hB u (q_P hB)⟩
      have s : cBq c t N H (pRow c pqS (pRow c pqP (pUnL c w E U))) (aRow t (aqS t) (aRow t (aqP t) (aUn t w E' U'))) := ⟨sF_row hB p.1 p.2.1 (q_S hB), gF_row p.2.1, tF_row qF_S p.2.1 p.2.2.1, jF_row hB p (q_S hB)⟩
      exact jF_cmp hB s (q_C hB) _ _ _ _ _ _ _ hi h2 h0 eP eF
/-- all levels -/
theorem jF_lv (hB : tkB c t N) : ∀ f, jF N f (pLv c f).1 (aLv t f).1 ∧ jF N f (pLv c f).2 (aLv t f).2
  | 0 => by
    have sn : sF c t N (fun _ _ => none) (fun _ _ => none) := fun _ _ _ _ _ _ => Or.inl ⟨rfl, rfl⟩
    exact ⟨jF_ex (h := 0) hB sn gF_n tF_n sn gF_n tF_n (fun z => by cases z) (fun z => by cases z), jF_un (h := 0) (U := fun _ _ => none) hB sn gF_n tF_n gF_n tF_n (fun z => by cases z) (fun z => by cases z)⟩
  | f + 1 => by
    have s := sF_lv hB f
    have g := gF_lv (t := t) f
    have tt := tF_lv (t := t) f
    have j := jF_lv hB f
    have cE : cBq c t N f (pLv c f).1 (aLv t f).1 := ⟨s.1, g.1, tt.1, j.1⟩
    have cU : cBq c t N f (pLv c f).2 (aLv t f).2 := ⟨s.2, g.2, tt.2, j.2⟩
    exact ⟨jF_ex hB s.1 g.1 tt.1 s.2 g.2 tt.2 (fun _ => ⟨cE, Nat.le_refl _⟩) (fun _ => cU), jF_un hB s.1 g.1 tt.1 g.2 tt.2 (fun _ => ⟨cE, Nat.le_refl _⟩) (fun _ => cU)⟩
end JSS
