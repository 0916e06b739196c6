/-! Ranges and levels of a whole PROGRAM. -/
section JTS
variable {c : tkC} {t : aK} {N : Nat}
/-- roots of DEFS: levels, and one behind the other -/
def rD (τ : sg_S) (A : aT) (D : List aDf) : Prop := (∀ (j : Nat) (x : aDf), D[j]? = some x → hNq A 12 x.2.2.2 ∧ 0 ≤ x.2.2.2 ∧ x.2.2.2 < A.1) ∧ ∀ (j j' : Nat) (x x' : aDf), j < j' → D[j]? = some x → D[j']? = some x' → sg_g τ 12 x.2.2.2 < sg_g τ 11 x'.2.2.2
/-- what is read after all that stands -/
theorem jCq_E {τ τ' : sg_S} {A A' : aT} {q : Int} {D : List aDf} (hj : jCq τ A 0) (hr : rD τ A D) (h0 : 0 ≤ A.1) (hf : fB τ τ' A.1) (hg : gr A A') (hq : jQ τ' A' A.1 q 12) : jCq τ' A' 0 ∧ rD τ' A' D ∧ (∀ (j : Nat) (x : aDf), D[j]? = some x → sg_g τ' 12 x.2.2.2 < sg_g τ' 11 q) := by
  obtain ⟨q1, q2, q3, q4⟩ := hq
  have r : ∀ k, k < A.1 → sg_g τ' 11 k = sg_g τ 11 k ∧ sg_g τ' 12 k = sg_g τ 12 k := fun k hk => ⟨(hf.1 11 k (by decide) hk).1, (hf.1 12 k (by decide) hk).1⟩
  have eq : ∀ k, 0 ≤ k → k < A.1 → ∀ x, sg_g τ 11 k ≤ x → x ≤ sg_g τ 12 k → A'.2.1 x = A.2.1 x ∧ A'.2.2.2.2.1 x = A.2.2.2.2.1 x ∧ A'.2.2.2.2.2 x = A.2.2.2.2.2 x := fun k a d x _ p => by
    obtain ⟨g1, g2, g3, g4, g5⟩ := hg.2 x (by have := (hj k a d).1.2; omega)
    exact ⟨g1, g4, g5⟩
  have gl := hg.1
  refine ⟨fun k a d => ?_, ⟨fun j x hx => ?_, fun j j' x x' hjj hx hx' => ?_⟩, fun j x hx => ?_⟩
  · by_cases ck : k < A.1
    · exact jN_x (hj k a ck) (r k ck).1 (r k ck).2 gl (Int.le_refl _) (eq k a ck)
    · exact jN_x (q1 k (by omega) d) rfl rfl (Int.le_refl _) h0 (fun _ _ _ => ⟨rfl, rfl, rfl⟩)
  · obtain ⟨y1, y2, y3⟩ := hr.1 j x hx
    exact ⟨hNq_x y1 (hj _ y2 y3) (eq _ y2 y3), y2, by omega⟩
  · have y := hr.1 j x hx
    have y' := hr.1 j' x' hx'
    rw [(r _ y.2.2).2, (r _ y'.2.2).1]
    exact hr.2 j j' x x' hjj hx hx'
  · obtain ⟨y1, y2, y3⟩ := hr.1 j x hx
    rw [(r _ y3).2, q3]
    exact (hj _ y2 y3).1.2
theorem jCq_r {τ τ' : sg_S} {A : aT} {D : List aDf} (hj : jCq τ A 0) (hr : rD τ A D) (h : ∀ k, sg_g τ' 11 k = sg_g τ 11 k ∧ sg_g τ' 12 k = sg_g τ 12 k) : jCq τ' A 0 ∧ rD τ' A D := ⟨fun k a d => jN_x (hj k a d) (h k).1 (h k).2 (Int.le_refl _) (Int.le_refl _) (fun _ _ _ => ⟨rfl, rfl, rfl⟩), hr.1, fun j j' x x' a b d => by rw [(h _).2, (h _).1]; exact hr.2 j j' x x' a b d⟩
theorem j_df1 (hB : tkB c t N) {E : pF} (hE : cBq c t N 12 E (aLv t 12).1) {D : List aDf} {i i1 : Nat} {τ τ1 : sg_S} {A A1 : aT} {x : aDf} (hi : i ≤ N) (hk : tK c i = 261) (hd : D.length < 12) (h2 : sg_g τ 2 16 = A.1) (h0 : 0 ≤ A.1 ∧ A.1 ≤ 200) (h19 : sg_g τ 19 8 = D.length) (hj : jCq τ A 0) (hr : rD τ A D) (eP : pDf1 c E (D.length : Int) i τ = some (i1, τ1)) (eF : aDf1 t N i A = some (i1, A1, x)) : jCq τ1 A1 0 ∧ rD τ1 A1 (D ++ [x]) := by
  unfold pDf1 at eP
  split at eP
  · cases eP
  rename_i i2 τ2 e1
  unfold pTitle at e1
  rw [if_neg (by omega)] at e1
  split at e1
  rotate_left
  · cases e1
  rename_i k1
  split at e1
  rotate_left
  · cases e1
  rename_i k2
  cases e1
  have n1 := nx_ok hB hi (by omega)
  have n2 := nx_ok hB n1 (by omega)
  have n3 := nx_ok hB n2 (by omega)
  have d12 : 0 ≤ (D.length : Int) ∧ (D.length : Int) < 12 := by omega
  have w0 : ∀ (a : Nat) (k : Int), ¬ a = 19 → ¬ a = 21 → ¬ a = 23 → sg_g (pDAdd τ (tW c (i + 1)) (tPl c (i + 1))) a k = sg_g τ a k := fun a k x1 x2 x3 => by
    unfold pDAdd
    rw [sg_gw_c _ _ _ _ _ _ x1, sxp_c _ _ _ _ _ _ _ x3, sxp_c _ _ _ _ _ _ _ x2, sxl_c]
  have p0 : cP (pDAdd τ (tW c (i + 1)) (tPl c (i + 1))) D.length [] := by
    refine ⟨?_, by simp, fun j y hy => by simp at hy⟩
    unfold pDAdd
    rw [h19, sg_gw_c _ _ _ _ _ _ (by decide), xp_in d12, sg_gw_e _ _ _ _ (by decide)]
    rfl
  unfold aDf1 at eF
  split at eF
  rotate_left
  · cases eF
  split at eF
  rotate_left
  · cases eF
  split at eF
  · cases eF
  rename_i j1 ps ea
  split at eF
  rotate_left
  · cases eF
  rename_i s41
  split at eF
  rotate_left
  · cases eF
  split at eF
  · cases eF
  rename_i j2 A2 q he'
  split at eF
  rotate_left
  · cases eF
  have pp : ∀ i3 τ3, pPars c (D.length : Int) (i + 1 + 1 + 1) (pDAdd τ (tW c (i + 1)) (tPl c (i + 1))) = some (i3, τ3) → i3 = j1 + 1 ∧ j1 + 1 ≤ N ∧ ∀ (a : Nat) (k : Int), a ≤ 18 → sg_g τ3 a k = sg_g τ a k := fun i3 τ3 hp => by
    unfold pPars pParE at hp
    unfold aPas at ea
    have bs := b_sg hB n3 (ch := 41) (by decide)
    by_cases c41 : tK c (i + 1 + 1 + 1) = 41
    · rw [if_pos c41] at hp
      rw [if_pos (bs.mpr c41)] at ea
      cases ea
      simp only at hp
      rw [if_pos c41] at hp
      have b3 := nx_ok hB n3 (by omega)
      cases hp
      exact ⟨rfl, b3, fun a k ha => w0 a k (by omega) (by omega) (by omega)⟩
    · rw [if_neg c41] at hp
      rw [if_neg (fun z => c41 (bs.mp z))] at ea
      rcases pa_ok hB hd 6 [] (i + 1 + 1 + 1) (pDAdd τ (tW c (i + 1)) (tPl c (i + 1))) n3 p0 rfl with ⟨x1, -⟩ | ⟨i5, τ5, ps5, x1, x2, x3, x4, x5, x6⟩
      · rw [x1] at hp; cases hp
      · rw [x1] at hp
        rw [x2] at ea
        obtain ⟨e5, -⟩ : i5 = j1 ∧ ps5 = ps := by cases ea; exact ⟨rfl, rfl⟩
        subst e5
        simp only at hp
        by_cases c5 : tK c i5 = 41
        rotate_left
        · rw [if_neg c5] at hp; cases hp
        rw [if_pos c5] at hp
        have b5 := nx_ok hB x3 (by omega)
        cases hp
        exact ⟨rfl, b5, fun a k ha => by rw [(x5.1 a k ha).1]; exact w0 a k (by omega) (by omega) (by omega)⟩
  split at eP
  · cases eP
  rename_i i3 τ3 e2
  obtain ⟨y1, y2, y3⟩ := pp i3 τ3 e2
  subst y1
  unfold pMean at eP
  split at eP
  rotate_left
  · cases eP
  rename_i c61
  split at eP
  · cases eP
  rename_i i6 τ6 r he
  split at eP
  rotate_left
  · cases eP
  cases eP
  obtain ⟨⟨z1, z2, z3, z4, z5, z6⟩, f6, g6, t6, q6⟩ := j_call hE (nx_ok hB y2 (by omega)) (by rw [y3 2 16 (by decide)]; exact h2) h0 he he'
  subst z2
  have eA : A1 = A2 := by cases eF; rfl
  have ex : x.2.2.2 = q := by cases eF; rfl
  subst eA
  obtain ⟨jc3, rd3⟩ := jCq_r hj hr (τ' := τ3) (fun k => ⟨y3 11 k (by decide), y3 12 k (by decide)⟩)
  obtain ⟨u1, u2, u3⟩ := jCq_E jc3 rd3 h0.1 f6 g6 q6
  have rr : ∀ k, sg_g (sx_put τ6 22 12 (D.length : Int) q) 11 k = sg_g τ6 11 k ∧ sg_g (sx_put τ6 22 12 (D.length : Int) q) 12 k = sg_g τ6 12 k := fun k => ⟨sxp_c _ _ _ _ _ _ _ (by decide), sxp_c _ _ _ _ _ _ _ (by decide)⟩
  obtain ⟨v1, v2⟩ := jCq_r u1 u2 rr
  have qb := q6.2.1
  refine ⟨v1, fun j y hy => ?_, fun j j' y y' hjj hy hy' => ?_⟩
  · by_cases cj : j < D.length
    · rw [List.getElem?_append_left cj] at hy; exact v2.1 j y hy
    · have := gE_l hy
      rw [List.length_append, List.length_cons, List.length_nil] at this
      have ej : j = D.length := by omega
      subst ej
      rw [List.getElem?_append_right (Nat.le_refl _), Nat.sub_self] at hy
      simp at hy
      subst hy
      rw [ex]
      exact ⟨q6.2.2.2, by omega, by omega⟩
  · have l' := gE_l hy'
    rw [List.length_append, List.length_cons, List.length_nil] at l'
    have cj : j < D.length := by omega
    rw [List.getElem?_append_left cj] at hy
    by_cases cj' : j' < D.length
    · rw [List.getElem?_append_left cj'] at hy'; exact v2.2 j j' y y' hjj hy hy'
    · have ej : j' = D.length := by omega
      subst ej
      rw [List.getElem?_append_right (Nat.le_refl _), Nat.sub_self] at hy'
      simp at hy'
      subst hy'
      rw [ex, (rr _).2, (rr _).1]
      exact u3 j y hy
theorem j_dfs (hB : tkB c t N) {E : pF} (hE : cBq c t N 12 E (aLv t 12).1) : ∀ (m : Nat) (D : List aDf) (i : Nat) (τ : sg_S) (A : aT) (Rs : List Int) (i' : Nat) (τ' : sg_S) (A' : aT) (D' : List aDf), i ≤ N → cS τ A 0 Rs → cD2 τ D → D.length + m = 12 → jCq τ A 0 → rD τ A D → pDefs c E (m + 1) i τ = some (i', τ') → aDfs t N m D i A = some (i', A', D') → i' ≤ N ∧ sg_g τ' 2 16 = A'.1 ∧ (0 ≤ A'.1 ∧ A'.1 ≤ 200) ∧ jCq τ' A' 0 ∧ rD τ' A' D'
  | 0, D, i, τ, A, Rs, i', τ', A', D', hi, hS, hD, hm, hj, hr, eP, eF => by
    have hs := hS.2.1
    have bd := b_def hB hi
    unfold pDefs at eP
    unfold aDfs at eF
    by_cases ck : tK c i = 261
    · rw [if_pos (bd.mpr ck)] at eF; cases eF
    · rw [if_neg ck] at eP
      rw [if_neg (fun z => ck (bd.mp z))] at eF
      cases eP
      cases eF
      exact ⟨hi, hS.1, by omega, hj, hr⟩
  | m + 1, D, i, τ, A, Rs, i', τ', A', D', hi, hS, hD, hm, hj, hr, eP, eF => by
    have hs := hS.2.1
    have bd := b_def hB hi
    unfold pDefs at eP
    unfold aDfs at eF
    by_cases ck : tK c i = 261
    · rw [if_pos ck] at eP
      rw [if_pos (bd.mpr ck)] at eF
      have dl : (12 : Int) - ((m + 1 : Nat) : Int) = D.length := by omega
      split at eF
      · cases eF
      rename_i i1 A1 x e1
      have pe : ∃ i3 τ3, pDf1 c E (D.length : Int) i τ = some (i3, τ3) ∧ pDefs c E (m + 1) i3 τ3 = some (i', τ') := by
        unfold pDf1
        rw [← dl]
        split at eP
        · cases eP
        rename_i i5 τ5 u1
        split at eP
        · cases eP
        rename_i i6 τ6 u2
        split at eP
        · cases eP
        rename_i i7 τ7 u3
        refine ⟨i7, τ7, ?_, eP⟩
        first
          | exact u3
          | (rw [u1]; simp only; rw [u2]; exact u3)
      obtain ⟨i3, τ3, p1, p2⟩ := pe
      rcases df_ok hB hE.1 hi ck (by omega) hS hD with ⟨u, -⟩ | ⟨i4, τ4, A4, x4, u1, u2, u3, u4, u5⟩
      · rw [u] at p1; cases p1
      · rw [u1] at p1
        rw [u2] at e1
        cases p1
        cases e1
        obtain ⟨v1, v2⟩ := j_df1 hB hE hi ck (by omega) hS.1 (by omega) hD.1 hj hr u1 u2
        exact j_dfs hB hE m _ _ _ _ _ _ _ _ _ u3 u4 u5 (by rw [List.length_append, List.length_cons, List.length_nil]; omega) v1 v2 p2 eF
    · rw [if_neg ck] at eP
      rw [if_neg (fun z => ck (bd.mp z))] at eF
      cases eP
      cases eF
      exact ⟨hi, hS.1, by omega, hj, hr⟩
/-- all that is kept of a PROGRAM that is read -/
def jPg (τ : sg_S) (A : aT) (D : List aDf) (q : Int) : Prop := jCq τ A 0 ∧ rD τ A D ∧ (hNq A 12 q ∧ 0 ≤ q ∧ q < A.1) ∧ ∀ (j : Nat) (x : aDf), D[j]? = some x → sg_g τ 12 x.2.2.2 < sg_g τ 11 q
theorem j_pg (hB : tkB c t N) {τ τ' : sg_S} {A : aT} {D : List aDf} {q : Int} (eP : pParse c (pLv c 12).1 τ = some (τ', q)) (eF : aPg t N aE0 = some (A, D, q)) : jPg τ' A D q := by
  have hE : cBq c t N 12 (pLv c 12).1 (aLv t 12).1 := ⟨(sF_lv hB 12).1, (gF_lv 12).1, (tF_lv 12).1, (jF_lv hB 12).1⟩
  unfold pParse pRest at eP
  unfold aPg at eF
  have s0 : sg_g (sg_w (sg_w τ 2 16 0) 19 8 0) 2 16 = aE0.1 := by
    rw [sg_gw_c _ _ _ _ _ _ (by decide), sg_gw_e _ _ _ _ (by decide)]; rfl
  have hS0 : cS (sg_w (sg_w τ 2 16 0) 19 8 0) aE0 0 [] := ⟨s0, by simp only [aE0]; omega, fun k a b => by simp only [aE0] at b; omega, by simp, fun x hx => by simp at hx⟩
  have hD0 : cD2 (sg_w (sg_w τ 2 16 0) 19 8 0) [] := ⟨by rw [sg_gw_e _ _ _ _ (by decide)]; rfl, by simp, fun d x hx => by simp at hx⟩
  split at eP
  · cases eP
  rename_i i1 τ1 e1
  split at eF
  · cases eF
  rename_i j1 A1 D1 f1
  rcases dfs_ok hB hE.1 12 [] 0 _ aE0 [] (Nat.zero_le _) hS0 hD0 (by simp) rfl with ⟨u, -⟩ | ⟨i2, τ2, A2, D2, Rs2, u1, u2, u3, u4, u5, u6⟩
  · rw [u] at e1; cases e1
  rw [u1] at e1
  rw [u2] at f1
  cases e1
  cases f1
  obtain ⟨v1, v2, v3, v4, v5⟩ := j_dfs hB hE 12 [] 0 _ aE0 [] _ _ _ _ (Nat.zero_le _) hS0 hD0 rfl (fun k a b => by simp only [aE0] at b; omega) ⟨fun j x hx => by simp at hx, fun j j' x x' _ hx => by simp at hx⟩ u1 u2
  split at eP
  · cases eP
  rename_i i4 τ4 r g1
  split at eP
  rotate_left
  · cases eP
  split at eF
  · cases eF
  rename_i j4 A4 r' g2
  split at eF
  rotate_left
  · cases eF
  cases eP
  cases eF
  obtain ⟨w1, w2, w3, w4, w5⟩ := j_call hE v1 v2 v3 g1 g2
  obtain ⟨y1, y2, y3⟩ := jCq_E v4 v5 v3.1 w2 w3 w5
  have qb := w5.2.1
  exact ⟨y1, y2, ⟨w5.2.2.2, by omega, by omega⟩, y3⟩
end JTS
