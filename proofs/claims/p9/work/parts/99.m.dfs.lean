/-! DEFS and PROGRAMS are read alike, but for TYPES more than 12 deep. -/
section DMP
variable {c : tkC} {t : aK} {N : Nat} {τ τ' : sg_S} {A A' : aT} {b q : Int} {R : List Int} {i : Nat}
def badP (ps : List (Int × Int × Int)) : Prop := ∃ y ∈ ps, 12 < y.2.2
/-- names and places of the DEFS stay -/
def kpD (τ τ' : sg_S) : Prop := sg_g τ' 19 8 = sg_g τ 19 8 ∧ ∀ k, sg_gl τ' 20 k = sg_gl τ 20 k ∧ sg_g τ' 21 k = sg_g τ 21 k
theorem kpD_t {τ1 τ2 : sg_S} (h : kpD τ τ1) (g : kpD τ1 τ2) : kpD τ τ2 := ⟨g.1.trans h.1, fun k => ⟨(g.2 k).1.trans (h.2 k).1, (g.2 k).2.trans (h.2 k).2⟩⟩
theorem ty_i (hB : tkB c t N) (hi : i ≤ N) {i' : Nat} {ty : Int} (h : aTy t N i = some (i', ty)) : i' ≤ N := by
  rcases ty_ok hB hi with ⟨-, x | ⟨i2, ty2, x1, x2, x3⟩⟩ | ⟨i2, ty2, -, x1, x2, -⟩
  · rw [x] at h; cases h
  · rw [x1] at h; cases h; exact x3
  · rw [x1] at h; cases h; exact x2
theorem paL_pre (hB : tkB c t N) : ∀ (m : Nat) (ps : List (Int × Int × Int)) (i i' : Nat) (ps' : List (Int × Int × Int)), i ≤ N → aPaL t N m ps i = some (i', ps') → (∀ y ∈ ps, y ∈ ps') ∧ i' ≤ N
  | 0, ps, i, i', ps', hi, h => by simp [aPaL] at h
  | m + 1, ps, i, i', ps', hi, h => by
    simp only [aPaL] at h
    split at h
    · rename_i a1
      have hlt := b_lt hB hi (by have := nm_t a1; omega)
      split at h
      · rename_i a2
        have hlt2 := b_lt hB (i := i + 1) (by omega) (by have := sg_t a2; omega)
        split at h
        · cases h
        · rename_i i1 ty hty
          have h1 := ty_i hB (i := i + 2) (by omega) hty
          split at h
          · rename_i a3
            have hlt3 := b_lt hB h1 (by have := sg_t a3; omega)
            obtain ⟨x1, x2⟩ := paL_pre hB m _ _ _ _ (by omega) h
            exact ⟨fun y hy => x1 y (List.mem_append_left _ hy), x2⟩
          · cases h
            exact ⟨fun y hy => List.mem_append_left _ hy, h1⟩
      · cases h
    · cases h
theorem pa_ok (hB : tkB c t N) {d : Nat} (hd : d < 12) : ∀ (m : Nat) (ps : List (Int × Int × Int)) (i : Nat) (τ : sg_S), i ≤ N → cP τ d ps → ps.length + m = 6 → (pParL c d (m + 1) i τ = none ∧ (aPaL t N m ps i = none ∨ ∃ i' ps', aPaL t N m ps i = some (i', ps') ∧ badP ps' ∧ i' ≤ N)) ∨ ∃ i' τ' ps', pParL c d (m + 1) i τ = some (i', τ') ∧ aPaL t N m ps i = some (i', ps') ∧ i' ≤ N ∧ cP τ' d ps' ∧ dF τ τ' d ∧ kpD τ τ'
  | 0, ps, i, τ, hi, h, hm => by
    left
    simp [pParL, aPaL]
  | m + 1, ps, i, τ, hi, h, hm => by
    by_cases c1 : tK c i = 258
    · have a1 := (b_nm hB hi).mpr c1
      have hlt := b_lt hB hi (by have := nm_t a1; omega)
      by_cases c2 : tK c (i + 1) = 58
      · have a2 := (b_sg hB (i := i + 1) (ch := 58) (by omega) (by decide)).mpr c2
        have hlt2 := b_lt hB (i := i + 1) (by omega) (by have := sg_t a2; omega)
        have key : pParL c d (m + 1 + 1) i τ = match pType c (i + 2) with
            | none => none
            | some (i1, dp) => if tK c i1 = 44 then pParL c d (m + 1) (i1 + 1) (sx_put (pDPar τ d (tW c i) (tPl c i)) 27 72 (d * 6 + (6 - ((m + 1 : Nat) : Int))) dp) else some (i1, sx_put (pDPar τ d (tW c i) (tPl c i)) 27 72 (d * 6 + (6 - ((m + 1 : Nat) : Int))) dp) := by
          rw [pParL]
          rw [if_pos ⟨c1, by omega⟩, if_pos c2]
          rfl
        rw [key]
        simp only [aPaL, a1, a2, if_true]
        rcases ty_ok hB (i := i + 2) (by omega) with ⟨x1, x2⟩ | ⟨i1, ty, x1, x2, x3, x4, x5⟩
        · left
          rw [x1]
          refine ⟨rfl, ?_⟩
          rcases x2 with x2 | ⟨i1, ty, x2, x3, x4⟩
          · left; rw [x2]
          · rw [x2]
            simp only
            have hbad : badP (ps ++ [(t.2.1 i, t.2.2 i, ty)]) := ⟨(t.2.1 i, t.2.2 i, ty), List.mem_append_right _ (by simp), x3⟩
            by_cases a3 : aSg t i1 44 = true
            · have hlt3 := b_lt hB x4 (by have := sg_t a3; omega)
              rw [if_pos a3]
              cases hr : aPaL t N m (ps ++ [(t.2.1 i, t.2.2 i, ty)]) (i1 + 1) with
              | none => exact Or.inl rfl
              | some r =>
                obtain ⟨i9, ps9⟩ := r
                obtain ⟨p1, p2⟩ := paL_pre hB m _ _ _ _ (by omega) hr
                obtain ⟨y, hy1, hy2⟩ := hbad
                exact Or.inr ⟨i9, ps9, rfl, ⟨y, p1 y hy1, hy2⟩, p2⟩
            · rw [if_neg a3]
              exact Or.inr ⟨i1, _, rfl, hbad, x4⟩
        · rw [x1, x2]
          simp only
          have hpr := tPl_r hB.1 i
          have hc2 := hB.1.2.1
          have hpt : tPl c i = t.2.2 i := ((hB.2.2.1.1 i hi).2).symm
          have hwr : sg_RL (tW c i) := by rw [← tW_r hB hlt (Or.inl c1)]; exact sg_Rnl _
          have e6 : (6 : Int) - ((m + 1 : Nat) : Int) = ps.length := by omega
          rw [e6]
          obtain ⟨q1, q2⟩ := par_1 (τ := τ) hd h (by omega) (w := tW c i) (p := tPl c i) (ty := ty) (w0 := t.2.1 i) hwr (tok_u hB.1 hB.2.2.1 hlt (Or.inl c1)).symm ⟨by omega, by omega⟩ ⟨by omega, by omega⟩
          rw [hpt] at q1 q2 ⊢
          have q3 : kpD τ (sx_put (pDPar τ d (tW c i) (t.2.2 i)) 27 72 ((d : Int) * 6 + ps.length) ty) := by
            unfold pDPar
            refine ⟨?_, fun k => ⟨?_, ?_⟩⟩
            · rw [sx_put_c _ _ _ _ _ _ _ (by decide), sx_put_c _ _ _ _ _ _ _ (by decide), sx_put_c _ _ _ _ _ _ _ (by decide), sx_putlx_c _ _ _ _ _ _ _ (by decide)]
            · rw [sx_putx_c _ _ _ _ _ _ _ (by decide), sx_putx_c _ _ _ _ _ _ _ (by decide), sx_putx_c _ _ _ _ _ _ _ (by decide), sx_putl_c _ _ _ _ _ _ _ (by decide)]
            · rw [sx_put_c _ _ _ _ _ _ _ (by decide), sx_put_c _ _ _ _ _ _ _ (by decide), sx_put_c _ _ _ _ _ _ _ (by decide), sx_putlx_c _ _ _ _ _ _ _ (by decide)]
          by_cases c3 : tK c i1 = 44
          · have a3 := (b_sg hB x3 (ch := 44) (by decide)).mpr c3
            have hlt3 := b_lt hB x3 (by have := sg_t a3; omega)
            rw [if_pos c3, if_pos a3]
            rcases pa_ok hB hd m (ps ++ [(t.2.1 i, t.2.2 i, ty)]) (i1 + 1) _ (by omega) q1 (by simp only [List.length_append, List.length_cons, List.length_nil]; omega) with y | ⟨i9, τ9, ps9, y1, y2, y3, y4, y5, y6⟩
            · exact Or.inl y
            · exact Or.inr ⟨i9, τ9, ps9, y1, y2, y3, y4, dF_t q2 y5, kpD_t q3 y6⟩
          · rw [if_neg c3, if_neg (fun x => c3 ((b_sg hB x3 (by decide)).mp x))]
            exact Or.inr ⟨i1, _, _, rfl, rfl, x3, q1, q2, q3⟩
      · left
        have a2 : ¬ aSg t (i + 1) 58 = true := fun x => c2 ((b_sg hB (by omega) (by decide)).mp x)
        refine ⟨?_, Or.inl ?_⟩
        · simp only [pParL, if_neg c2]
          split <;> rfl
        · simp only [aPaL, a1, if_true, if_neg a2]
    · left
      have a1 : ¬ aNm t i = true := fun x => c1 ((b_nm hB hi).mp x)
      refine ⟨?_, Or.inl ?_⟩
      · rw [pParL, if_neg (fun x => c1 x.1)]
      · simp only [aPaL, if_neg a1]
/-- a DEF in both -/
def pDf1 (c : tkC) (E : pF) (d : Int) (i : Nat) (τ : sg_S) : Option (Nat × sg_S) :=
  match pTitle c d i τ with
  | none => none
  | some (i1, τ1) => match pPars c d i1 τ1 with
    | none => none
    | some (i2, τ2) => pMean c E d i2 τ2
theorem df_ok (hB : tkB c t N) {E : pF} (hE : sF c t N E (aLv t 12).1) {D : List aDf} {Rs : List Int} (hi : i ≤ N) (hk : tK c i = 261) (hd : D.length < 12) (h : cS τ A 0 Rs) (hD : cD2 τ D) : (pDf1 c E (D.length : Int) i τ = none ∧ (aDf1 t N i A = none ∨ ∃ i' A' x, aDf1 t N i A = some (i', A', x) ∧ badP x.2.2.1 ∧ i' ≤ N)) ∨ ∃ i' τ' A' x, pDf1 c E (D.length : Int) i τ = some (i', τ') ∧ aDf1 t N i A = some (i', A', x) ∧ i' ≤ N ∧ cS τ' A' 0 (x.2.2.2 :: Rs) ∧ cD2 τ' (D ++ [x]) := by
  have h2 := h.2.1
  have hlt := b_lt hB hi (by have := (b_s hB hi).2.2.1.mpr (by omega); omega)
  unfold pDf1 pTitle aDf1
  rw [if_neg (by omega)]
  by_cases c1 : tK c (i + 1) = 258
  · have a1 := (b_nm hB (i := i + 1) (by omega)).mpr c1
    have hlt1 := b_lt hB (i := i + 1) (by omega) (by have := nm_t a1; omega)
    rw [if_pos c1, if_pos a1]
    by_cases c2 : tK c (i + 1 + 1) = 40
    · have a2 := (b_sg hB (i := i + 1 + 1) (ch := 40) (by omega) (by decide)).mpr c2
      have hlt2 := b_lt hB (i := i + 1 + 1) (by omega) (by have := sg_t a2; omega)
      rw [if_pos c2, if_pos (show aSg t (i + 2) 40 = true from a2)]
      simp only
      have hpr := tPl_r hB.1 (i + 1)
      have hc2 := hB.1.2.1
      have hpt : tPl c (i + 1) = t.2.2 (i + 1) := ((hB.2.2.1.1 (i + 1) (by omega)).2).symm
      have hwr := tW_r hB hlt1 (Or.inl c1)
      have huw := tok_u hB.1 hB.2.2.1 hlt1 (Or.inl c1)
      have i12 : 0 ≤ (D.length : Int) ∧ (D.length : Int) < ((12 : Nat) : Int) := by omega
      have e1 : pDAdd τ (tW c (i + 1)) (tPl c (i + 1)) = sg_w (sg_w (sg_w (sg_wl τ 20 D.length (tW c (i + 1))) 21 D.length (tPl c (i + 1))) 23 D.length 0) 19 8 (D.length + 1) := by
        unfold pDAdd
        rw [hD.1, show (12 : Int) = ((12 : Nat) : Int) from rfl, pzl_in i12, pz_in i12, pz_in i12]
      rw [e1]
      generalize hτ1 : sg_w (sg_w (sg_w (sg_wl τ 20 D.length (tW c (i + 1))) 21 D.length (tPl c (i + 1))) 23 D.length 0) 19 8 (D.length + 1) = τ1
      have f1 : dF τ τ1 D.length ∧ sg_gl τ1 20 D.length = tW c (i + 1) ∧ sg_g τ1 21 D.length = tPl c (i + 1) ∧ cP τ1 D.length [] ∧ sg_g τ1 19 8 = D.length + 1 := by
        rw [← hτ1]
        refine ⟨⟨fun a k ha => ⟨?_, ?_⟩, fun k hk => ⟨?_, ?_, ?_, ?_⟩, fun k hk => ⟨?_, ?_, ?_⟩⟩, ?_, ?_, ⟨?_, by simp, fun j y hy => by simp at hy⟩, ?_⟩
        · rw [sg_gw_c _ _ _ _ _ _ (by omega), sg_gw_c _ _ _ _ _ _ (by omega), sg_gw_c _ _ _ _ _ _ (by omega), sg_gwl']
        · rw [sg_gw', sg_gw', sg_gw', sg_gwl_c _ _ _ _ _ _ (by omega)]
        · rw [sg_gw', sg_gw', sg_gw', sg_gwl_k _ _ _ _ _ _ hk]
        · rw [sg_gw_c _ _ _ _ _ _ (by decide), sg_gw_c _ _ _ _ _ _ (by decide), sg_gw_k _ _ _ _ _ _ hk, sg_gwl']
        · rw [sg_gw_c _ _ _ _ _ _ (by decide), sg_gw_c _ _ _ _ _ _ (by decide), sg_gw_c _ _ _ _ _ _ (by decide), sg_gwl']
        · rw [sg_gw_c _ _ _ _ _ _ (by decide), sg_gw_k _ _ _ _ _ _ hk, sg_gw_c _ _ _ _ _ _ (by decide), sg_gwl']
        · rw [sg_gw', sg_gw', sg_gw', sg_gwl_c _ _ _ _ _ _ (by decide)]
        · rw [sg_gw_c _ _ _ _ _ _ (by decide), sg_gw_c _ _ _ _ _ _ (by decide), sg_gw_c _ _ _ _ _ _ (by decide), sg_gwl']
        · rw [sg_gw_c _ _ _ _ _ _ (by decide), sg_gw_c _ _ _ _ _ _ (by decide), sg_gw_c _ _ _ _ _ _ (by decide), sg_gwl']
        · rw [sg_gw', sg_gw', sg_gw', sg_gwl, if_pos ⟨rfl, rfl⟩, hwr]
        · rw [sg_gw_c _ _ _ _ _ _ (by decide), sg_gw_c _ _ _ _ _ _ (by decide), sg_gw, if_pos ⟨rfl, rfl⟩, sg_id ⟨by omega, by omega⟩]
        · rw [sg_gw_c _ _ _ _ _ _ (by decide), sg_gw, if_pos ⟨rfl, rfl⟩]; rfl
        · rw [sg_gw, if_pos ⟨rfl, rfl⟩, sg_id ⟨by omega, by omega⟩]
      clear hτ1 e1
      obtain ⟨g1, g2, g3, g4, g5⟩ := f1
      -- PARAMS
      have pp : (pPars c (D.length : Int) (i + 1 + 1 + 1) τ1 = none ∧ (aPas t N (i + 3) = none ∨ (∃ i1 ps, aPas t N (i + 3) = some (i1, ps) ∧ ((badP ps ∧ i1 ≤ N) ∨ (i1 ≤ N ∧ ¬ aSg t i1 41 = true))))) ∨ ∃ i1 τ2 ps, pPars c (D.length : Int) (i + 1 + 1 + 1) τ1 = some (i1 + 1, τ2) ∧ aPas t N (i + 3) = some (i1, ps) ∧ aSg t i1 41 = true ∧ i1 < N ∧ cP τ2 D.length ps ∧ dF τ1 τ2 D.length ∧ kpD τ1 τ2 := by
        unfold pPars pParE aPas
        by_cases d1 : tK c (i + 1 + 1 + 1) = 41
        · have a3 := (b_sg hB (i := i + 1 + 1 + 1) (ch := 41) (by omega) (by decide)).mpr d1
          have hlt3 := b_lt hB (i := i + 1 + 1 + 1) (by omega) (by have := sg_t a3; omega)
          right
          simp only [d1, if_true, show aSg t (i + 3) 41 = true from a3]
          exact ⟨i + 3, τ1, [], rfl, rfl, a3, hlt3, g4, dF_r _ _, rfl, fun _ => ⟨rfl, rfl⟩⟩
        · have a3 : ¬ aSg t (i + 3) 41 = true := fun x => d1 ((b_sg hB (i := i + 3) (by omega) (by decide)).mp x)
          simp only [if_neg d1, if_neg a3]
          rcases pa_ok hB hd 6 [] (i + 1 + 1 + 1) τ1 (by omega) g4 rfl with ⟨x1, x2⟩ | ⟨i1, τ2, ps, x1, x2, x3, x4, x5, x6⟩
          · left
            rw [x1]
            refine ⟨rfl, ?_⟩
            rcases x2 with x2 | ⟨i1, ps, x2, x3, x4⟩
            · exact Or.inl x2
            · exact Or.inr ⟨i1, ps, x2, Or.inl ⟨x3, x4⟩⟩
          · rw [x1]
            simp only
            by_cases d2 : tK c i1 = 41
            · have a4 := (b_sg hB x3 (ch := 41) (by decide)).mpr d2
              have hlt4 := b_lt hB x3 (by have := sg_t a4; omega)
              right
              rw [if_pos d2]
              exact ⟨i1, τ2, ps, rfl, x2, a4, hlt4, x4, x5, x6⟩
            · left
              rw [if_neg d2]
              exact ⟨rfl, Or.inr ⟨i1, ps, x2, Or.inr ⟨x3, fun x => d2 ((b_sg hB x3 (by decide)).mp x)⟩⟩⟩
      rcases pp with ⟨x1, x2⟩ | ⟨i1, τ2, ps, x1, x2, x3, x4, x5, x6, x7⟩
      · left
        rw [x1]
        refine ⟨rfl, ?_⟩
        rcases x2 with x2 | ⟨i1, ps, x2, x3⟩
        · left; rw [x2]
        · rw [x2]
          simp only
          rcases x3 with ⟨hb, hi1⟩ | ⟨-, hn⟩
          · -- a TYPE too deep: whatever follows
            by_cases a4 : aSg t i1 41 = true
            · have hlt4 := b_lt hB hi1 (by have := sg_t a4; omega)
              rw [if_pos a4]
              by_cases a5 : aSg t (i1 + 1) 61 = true
              · have hlt5 := b_lt hB (i := i1 + 1) (by omega) (by have := sg_t a5; omega)
                rw [if_pos a5]
                cases hr : (aLv t 12).1 (i1 + 2) A with
                | none => exact Or.inl rfl
                | some r =>
                  obtain ⟨i9, A9, q9⟩ := r
                  have hi9 : i9 ≤ N := by
                    rcases hE (i1 + 2) τ A (by omega) h.1 (by omega) with ⟨u1, u2⟩ | ⟨i8, τ8, A8, q8, u1, u2, u3, -⟩
                    · rw [u2] at hr; cases hr
                    · rw [u2] at hr; cases hr; exact u3
                  simp only
                  by_cases a6 : aSg t i9 59 = true
                  · have hlt6 := b_lt hB hi9 (by have := sg_t a6; omega)
                    rw [if_pos a6]
                    exact Or.inr ⟨i9 + 1, A9, _, rfl, hb, by omega⟩
                  · rw [if_neg a6]; exact Or.inl rfl
              · rw [if_neg a5]; exact Or.inl rfl
            · rw [if_neg a4]; exact Or.inl rfl
          · left; rw [if_neg hn]
      · rw [x1, x2]
        simp only
        rw [if_pos x3]
        unfold pMean
        by_cases c5 : tK c (i1 + 1) = 61
        · have a5 := (b_sg hB (i := i1 + 1) (ch := 61) (by omega) (by decide)).mpr c5
          have hlt5 := b_lt hB (i := i1 + 1) (by omega) (by have := sg_t a5; omega)
          rw [if_pos c5, if_pos a5]
          have fd : dF τ τ2 D.length := dF_t g1 x6
          have cs2 := cS_d h fd
          rcases hE (i1 + 1 + 1) τ2 A (by omega) cs2.1 (by omega) with ⟨y1, y2⟩ | ⟨i3, τ3, A3, q, y1, y2, y3, y4, y5⟩
          · left
            rw [y1, show i1 + 2 = i1 + 1 + 1 by omega, y2]
            exact ⟨rfl, Or.inl rfl⟩
          · rw [y1, show i1 + 2 = i1 + 1 + 1 by omega, y2]
            simp only
            by_cases c6 : tK c i3 = 59
            · have a6 := (b_sg hB y3 (ch := 59) (by decide)).mpr c6
              have hlt6 := b_lt hB y3 (by have := sg_t a6; omega)
              rw [if_pos c6, if_pos a6]
              right
              have gg := (gF_lv 12).1 _ _ _ _ _ y2 (by omega)
              have cs3 := cS_E cs2 y4 y5 gg.1
              rw [show (12 : Int) = ((12 : Nat) : Int) from rfl, pz_in i12]
              have f22 : dF τ3 (sg_w τ3 22 D.length q) D.length := ⟨fun a k ha => ⟨by rw [sg_gw_c _ _ _ _ _ _ (by omega)], rfl⟩, fun k hk => ⟨rfl, by rw [sg_gw_c _ _ _ _ _ _ (by decide)], by rw [sg_gw_k _ _ _ _ _ _ hk], by rw [sg_gw_c _ _ _ _ _ _ (by decide)]⟩, fun k hk => ⟨rfl, by rw [sg_gw_c _ _ _ _ _ _ (by decide)], by rw [sg_gw_c _ _ _ _ _ _ (by decide)]⟩⟩
              have e23 : ∀ (a : Nat) (k : Int), 19 ≤ a ∧ a ≤ 27 → ¬ a = 22 → sg_g (sg_w τ3 22 D.length q) a k = sg_g τ2 a k ∧ sg_gl (sg_w τ3 22 D.length q) a k = sg_gl τ2 a k := fun a k ha h22 => ⟨by rw [sg_gw_c _ _ _ _ _ _ h22]; exact (y5.2 a k ha).1, (y5.2 a k ha).2⟩
              refine ⟨i3 + 1, _, A3, (t.2.1 (i + 1), t.2.2 (i + 1), ps, q), rfl, rfl, by omega, cS_d cs3 f22, ?_, ?_, fun dd x hx => ?_⟩
              · rw [(e23 19 8 (by omega) (by omega)).1, x7.1, g5]; simp
              · simp; omega
              · by_cases ed : dd = D.length
                · subst ed
                  rw [List.getElem?_append_right (Nat.le_refl _)] at hx
                  simp at hx
                  rw [← hx]
                  refine ⟨?_, ?_, ?_, ?_⟩
                  · rw [(e23 20 _ (by omega) (by omega)).2, (x7.2 _).1, g2]; exact huw.symm
                  · rw [(e23 21 _ (by omega) (by omega)).1, (x7.2 _).2, g3]; exact hpt
                  · have hq := y4.2.2.2.2 q (by simp)
                    have h200 := y4.2.1
                    rw [sg_gw, if_pos ⟨rfl, rfl⟩, sg_id ⟨by omega, by omega⟩]
                  · exact ⟨by rw [(e23 23 _ (by omega) (by omega)).1]; exact x5.1, x5.2.1, fun j y hy => by
                      rw [(e23 25 _ (by omega) (by omega)).2, (e23 26 _ (by omega) (by omega)).1, (e23 27 _ (by omega) (by omega)).1]
                      exact x5.2.2 j y hy⟩
                · have hdl : dd < D.length := by
                    have := (List.getElem?_eq_some_iff.mp hx).1
                    simp at this
                    omega
                  rw [List.getElem?_append_left hdl] at hx
                  obtain ⟨z1, z2, z3, z4⟩ := hD.2.2 dd x hx
                  have hkk : ¬ ((dd : Int) = (D.length : Int)) := by omega
                  have fk := fd.2.1 (dd : Int) hkk
                  refine ⟨?_, ?_, ?_, ?_, z4.2.1, fun j y hy => ?_⟩
                  · rw [(e23 20 _ (by omega) (by omega)).2, fk.1]; exact z1
                  · rw [(e23 21 _ (by omega) (by omega)).1, fk.2.1]; exact z2
                  · rw [sg_gw_k _ _ _ _ _ _ hkk, (y5.2 22 _ (by omega)).1, fk.2.2.1]; exact z3
                  · rw [(e23 23 _ (by omega) (by omega)).1, fk.2.2.2]; exact z4.1
                  · have hjj := (List.getElem?_eq_some_iff.mp hy).1
                    have h6 := z4.2.1
                    have fk2 := fd.2.2 (6 * (dd : Int) + j) (by omega)
                    rw [(e23 25 _ (by omega) (by omega)).2, (e23 26 _ (by omega) (by omega)).1, (e23 27 _ (by omega) (by omega)).1, fk2.1, fk2.2.1, fk2.2.2]
                    exact z4.2.2 j y hy
            · left
              rw [if_neg c6, if_neg (fun x => c6 ((b_sg hB y3 (by decide)).mp x))]
              exact ⟨rfl, Or.inl rfl⟩
        · left
          rw [if_neg c5, if_neg (fun x => c5 ((b_sg hB (i := i1 + 1) (by omega) (by decide)).mp x))]
          exact ⟨rfl, Or.inl rfl⟩
    · left
      rw [if_neg c2, if_neg (fun x => c2 ((b_sg hB (i := i + 1 + 1) (by omega) (by decide)).mp x))]
      exact ⟨rfl, Or.inl rfl⟩
  · left
    rw [if_neg c1, if_neg (fun x => c1 ((b_nm hB (i := i + 1) (by omega)).mp x))]
    exact ⟨rfl, Or.inl rfl⟩
end DMP
