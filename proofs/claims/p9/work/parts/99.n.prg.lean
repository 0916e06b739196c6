/-! PROGRAMS are read alike, but for TYPES more than 12 deep. -/
section PRG
variable {c : tkC} {t : aK} {N : Nat} {τ τ' : sg_S} {A A' : aT} {q : Int} {i : Nat}
theorem lv_i (hB : tkB c t N) {f i' : Nat} (hi : i ≤ N) (h0 : 0 ≤ A.1 ∧ A.1 ≤ 200) (h : (aLv t f).1 i A = some (i', A', q)) : i' ≤ N ∧ (0 ≤ A'.1 ∧ A'.1 ≤ 200) := by
  have hg := (gF_lv f).1 _ _ _ _ _ h h0
  have hg1 := hg.1.1
  refine ⟨?_, by omega⟩
  rcases (sF_lv hB f).1 i (sg_w (fun _ _ => 0, fun _ _ => 0) 2 16 A.1) A hi (by rw [sg_gw, if_pos ⟨rfl, rfl⟩, sg_id ⟨by omega, by omega⟩]) h0 with ⟨-, x⟩ | ⟨i2, τ2, A2, q2, -, x, y, -⟩
  · rw [x] at h; cases h
  · rw [x] at h; cases h; exact y
theorem pas_i (hB : tkB c t N) (hi : i ≤ N) {i' : Nat} {ps : List (Int × Int × Int)} (h : aPas t N i = some (i', ps)) : i' ≤ N := by
  unfold aPas at h
  split at h
  · cases h; exact hi
  · exact (paL_pre hB 6 _ _ _ _ hi h).2
theorem df1_i (hB : tkB c t N) (hi : i < N) (h0 : 0 ≤ A.1 ∧ A.1 ≤ 200) {i' : Nat} {x : aDf} (h : aDf1 t N i A = some (i', A', x)) : i' ≤ N ∧ (0 ≤ A'.1 ∧ A'.1 ≤ 200) := by
  unfold aDf1 at h
  split at h
  · rename_i a1
    have l1 := b_lt hB (i := i + 1) (by omega) (by have := nm_t a1; omega)
    split at h
    · rename_i a2
      have l2 := b_lt hB (i := i + 2) (by omega) (by have := sg_t a2; omega)
      split at h
      · cases h
      · rename_i i1 ps hp
        have l3 := pas_i hB (i := i + 3) (by omega) hp
        split at h
        · rename_i a4
          have l4 := b_lt hB l3 (by have := sg_t a4; omega)
          split at h
          · rename_i a5
            have l5 := b_lt hB (i := i1 + 1) (by omega) (by have := sg_t a5; omega)
            split at h
            · cases h
            · rename_i i2 A2 q hE
              have l6 := lv_i hB (i := i1 + 2) (by omega) h0 hE
              split at h
              · rename_i a7
                have l7 := b_lt hB l6.1 (by have := sg_t a7; omega)
                cases h
                exact ⟨by omega, l6.2⟩
              · cases h
          · cases h
        · cases h
    · cases h
  · cases h
theorem dfs_pre (hB : tkB c t N) : ∀ (m : Nat) (D : List aDf) (i : Nat) (A : aT) (i' : Nat) (A' : aT) (D' : List aDf), i ≤ N → 0 ≤ A.1 ∧ A.1 ≤ 200 → aDfs t N m D i A = some (i', A', D') → (∀ x ∈ D, x ∈ D') ∧ i' ≤ N ∧ (0 ≤ A'.1 ∧ A'.1 ≤ 200)
  | 0, D, i, A, i', A', D', hi, h0, h => by
    simp only [aDfs] at h
    split at h
    · cases h
    · cases h
      exact ⟨fun x hx => hx, hi, h0⟩
  | m + 1, D, i, A, i', A', D', hi, h0, h => by
    simp only [aDfs] at h
    split at h
    · rename_i a1
      have l1 := b_lt hB hi (by have := wo_t a1; omega)
      split at h
      · cases h
      · rename_i i1 A1 x hx
        have l2 := df1_i hB l1 h0 hx
        obtain ⟨y1, y2, y3⟩ := dfs_pre hB m _ _ _ _ _ _ l2.1 l2.2 h
        exact ⟨fun z hz => y1 z (List.mem_append_left _ hz), y2, y3⟩
    · cases h
      exact ⟨fun x hx => hx, hi, h0⟩
def badD (D : List aDf) : Prop := ∃ x ∈ D, badP x.2.2.1
theorem dfs_ok (hB : tkB c t N) {E : pF} (hE : sF c t N E (aLv t 12).1) : ∀ (m : Nat) (D : List aDf) (i : Nat) (τ : sg_S) (A : aT) (Rs : List Int), i ≤ N → cS τ A 0 Rs → cD2 τ D → (∀ x ∈ D, x.2.2.2 ∈ Rs) → D.length + m = 12 → (pDefs c E (m + 1) i τ = none ∧ (aDfs t N m D i A = none ∨ ∃ i' A' D', aDfs t N m D i A = some (i', A', D') ∧ badD D')) ∨ ∃ i' τ' A' D' Rs', pDefs c E (m + 1) i τ = some (i', τ') ∧ aDfs t N m D i A = some (i', A', D') ∧ i' ≤ N ∧ cS τ' A' 0 Rs' ∧ cD2 τ' D' ∧ (∀ x ∈ D', x.2.2.2 ∈ Rs')
  | m, D, i, τ, A, Rs, hi, h, hD, hr, hm => by
    have bd := b_def hB hi
    by_cases c1 : tK c i = 261
    · have a1 := bd.mpr c1
      have l1 := b_lt hB hi (by have := wo_t a1; omega)
      cases m with
      | zero =>
        left
        have e12 : D.length = 12 := by omega
        refine ⟨?_, Or.inl ?_⟩
        · rw [pDefs, if_pos c1]
          unfold pTitle
          rw [if_pos (by omega)]
        · simp only [aDfs, a1, if_true]
      | succ m =>
        have hd : D.length < 12 := by omega
        have e12 : (12 : Int) - ((m + 1 : Nat) : Int) = (D.length : Int) := by omega
        have key : pDefs c E (m + 1 + 1) i τ = match pDf1 c E (D.length : Int) i τ with
            | none => none
            | some (i3, τ3) => pDefs c E (m + 1) i3 τ3 := by
          rw [pDefs, if_pos c1, e12]
          unfold pDf1
          cases pTitle c (D.length : Int) i τ with
          | none => rfl
          | some x =>
            obtain ⟨i1, τ1⟩ := x
            simp only
            cases pPars c (D.length : Int) i1 τ1 with
            | none => rfl
            | some x =>
              obtain ⟨i2, τ2⟩ := x
              simp only
              cases pMean c E (D.length : Int) i2 τ2 with
              | none => rfl
              | some x => rfl
        rw [key]
        simp only [aDfs, a1, if_true]
        have h200 := h.2.1
        rcases df_ok hB hE hi c1 hd h hD with ⟨x1, x2⟩ | ⟨i1, τ1, A1, x, x1, x2, x3, x4, x5⟩
        · left
          rw [x1]
          refine ⟨rfl, ?_⟩
          rcases x2 with x2 | ⟨i1, A1, x, x2, x3, x4⟩
          · left; rw [x2]
          · rw [x2]
            simp only
            cases hrr : aDfs t N m (D ++ [x]) i1 A1 with
            | none => exact Or.inl rfl
            | some r =>
              obtain ⟨i9, A9, D9⟩ := r
              have hb := df1_i hB l1 (by omega) x2
              obtain ⟨p1, -⟩ := dfs_pre hB m _ _ _ _ _ _ x4 hb.2 hrr
              exact Or.inr ⟨i9, A9, D9, rfl, x, p1 x (by simp), x3⟩
        · rw [x1, x2]
          simp only
          exact dfs_ok hB hE m (D ++ [x]) i1 τ1 A1 (x.2.2.2 :: Rs) x3 x4 x5 (fun y hy => by
            rcases List.mem_append.mp hy with e | e
            · exact List.mem_cons_of_mem _ (hr y e)
            · simp at e; subst e; simp) (by simp only [List.length_append, List.length_cons, List.length_nil]; omega)
    · right
      have a1 : ¬ aWo t i 6606 = true := fun x => c1 (bd.mp x)
      refine ⟨i, τ, A, D, Rs, ?_, ?_, hi, h, hD, hr⟩
      · rw [pDefs, if_neg c1]
      · cases m with
        | zero => simp only [aDfs, if_neg a1]
        | succ m => simp only [aDfs, if_neg a1]
/-- no node yet -/
def aE0 : aT := (0, fun _ => 0, fun _ => 0, fun _ => 0, fun _ => [], fun _ => [])
theorem pg_ok (hB : tkB c t N) (τ : sg_S) : (pParse c (pLv c 12).1 τ = none ∧ (aPg t N aE0 = none ∨ ∃ A D q, aPg t N aE0 = some (A, D, q) ∧ badD D)) ∨ ∃ τ' A D q Rs, pParse c (pLv c 12).1 τ = some (τ', q) ∧ aPg t N aE0 = some (A, D, q) ∧ cS τ' A 0 (q :: Rs) ∧ cD2 τ' D ∧ ∀ x ∈ D, x.2.2.2 ∈ Rs := by
  have hE := (sF_lv hB 12).1
  have h0 : cS (sg_w (sg_w τ 2 16 0) 19 8 0) aE0 0 [] := ⟨by rw [sg_gw_c _ _ _ _ _ _ (by decide), sg_gw, if_pos ⟨rfl, rfl⟩]; rfl, by decide, fun k a b => by simp only [aE0] at b; omega, by simp, fun x hx => by simp at hx⟩
  have hD0 : cD2 (sg_w (sg_w τ 2 16 0) 19 8 0) [] := ⟨by rw [sg_gw, if_pos ⟨rfl, rfl⟩]; rfl, by simp, fun d x hx => by simp at hx⟩
  unfold pParse pRest aPg
  rcases dfs_ok hB hE 12 [] 0 (sg_w (sg_w τ 2 16 0) 19 8 0) aE0 [] (Nat.zero_le _) h0 hD0 (fun x hx => by simp at hx) rfl with ⟨x1, x2⟩ | ⟨i1, τ1, A1, D1, Rs1, x1, x2, x3, x4, x5, x6⟩
  · left
    rw [x1]
    refine ⟨rfl, ?_⟩
    rcases x2 with x2 | ⟨i1, A1, D1, x2, x3⟩
    · left; rw [x2]
    · rw [x2]
      simp only
      cases (aLv t 12).1 i1 A1 with
      | none => exact Or.inl rfl
      | some r =>
        obtain ⟨i2, A2, q2⟩ := r
        simp only
        split
        · exact Or.inr ⟨A2, D1, q2, rfl, x3⟩
        · exact Or.inl rfl
  · rw [x1, x2]
    simp only
    have h200 := x4.2.1
    rcases hE i1 τ1 A1 x3 x4.1 (by omega) with ⟨y1, y2⟩ | ⟨i2, τ2, A2, q, y1, y2, y3, y4, y5⟩
    · left; rw [y1, y2]; exact ⟨rfl, Or.inl rfl⟩
    · rw [y1, y2]
      simp only
      have be := (b_s hB y3).1
      by_cases ce : tK c i2 = 256
      · rw [if_pos ce, if_pos (be.mpr ce)]
        right
        have gg := (gF_lv 12).1 _ _ _ _ _ y2 (by omega)
        refine ⟨τ2, A2, D1, q, Rs1, rfl, rfl, cS_E x4 y4 y5 gg.1, ?_, x6⟩
        obtain ⟨z1, z2, z3⟩ := x5
        refine ⟨by rw [(y5.2 19 8 (by omega)).1]; exact z1, z2, fun d x hx => ?_⟩
        obtain ⟨w1, w2, w3, w4, w5, w6⟩ := z3 d x hx
        refine ⟨by rw [(y5.2 20 _ (by omega)).2]; exact w1, by rw [(y5.2 21 _ (by omega)).1]; exact w2, by rw [(y5.2 22 _ (by omega)).1]; exact w3, by rw [(y5.2 23 _ (by omega)).1]; exact w4, w5, fun j y hy => ?_⟩
        rw [(y5.2 25 _ (by omega)).2, (y5.2 26 _ (by omega)).1, (y5.2 27 _ (by omega)).1]
        exact w6 j y hy
      · left
        rw [if_neg ce, if_neg (fun x => ce (be.mp x))]
        exact ⟨rfl, Or.inl rfl⟩
end PRG
