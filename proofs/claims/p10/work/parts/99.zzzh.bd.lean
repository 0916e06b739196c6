/-! THE CLASS DRAWS what a nested run came to, exactly. -/
set_option maxRecDepth 8000 in
theorem dIt0 (z : Value) (σ : sg_S) (v : vaF) (x : Int) (rx : sg_R x) (hB : sg_g σ 45 20 ≤ 9003) (hv : cvF σ 0 v x) (h2 : 0 ≤ sg_g σ 49 2 ∧ sg_g σ 49 2 + (imF 0 v).length ≤ 3001) : wx z 2 140 0 [(0, .inr (.inr (.ref 45))), (1, .inl (x)), (2, .inl (0))] [] σ (fun w σ' => w = none ∧ sg_F [3049, 52] σ σ' ∧ aIm 49 52 σ σ' (imF 0 v)) := by
  have l1 := imF_1 0 v
  refine wk_b tt_140 1 (pc' := 1) (ls' := [(0, .inr (.inr (.ref 45))), (1, .inl (x)), (2, .inl (0))]) (st' := [.inl (0)]) (σ' := σ) rfl ?_
  refine wk_if tt_140 (tgt := 13) rfl rfl (by decide) (fun h1 => ?_) (fun h1 => ?_)
  · simp only [sg_c, sg_nc] at h1
    exfalso; omega
  · refine wk_b tt_140 3 (pc' := 9) (ls' := [(0, .inr (.inr (.ref 45))), (1, .inl (x)), (2, .inl (0))]) (st' := [.inl (x), .inr (.inr (.ref 49))]) (σ' := σ) rfl ?_
    refine wk_call tt_140 rfl rfl rfl rfl rfl tt_91 rfl (by decide) (i49_add z σ x rx ⟨by omega, by omega⟩) (fun w41 σ42 hq43 => ?_)
    obtain ⟨rfl, f42, t42⟩ := hq43
    refine wk_rV tt_140 rfl rfl ⟨rfl, f42, ?_⟩
    have e : v [] = x := hv
    simp only [imF]
    rw [e]
    exact t42
set_option maxRecDepth 8000 in
theorem dIt1 (z : Value) (σ : sg_S) (v : vaF) (x : Int) (rx : sg_R x) (hB : sg_g σ 45 20 ≤ 9003) (hv : cvF σ 1 v x) (h2 : 0 ≤ sg_g σ 49 2 ∧ sg_g σ 49 2 + (imF 1 v).length ≤ 3001) : wx z 3 140 0 [(0, .inr (.inr (.ref 45))), (1, .inl (x)), (2, .inl (1))] [] σ (fun w σ' => w = none ∧ sg_F [3049, 52] σ σ' ∧ aIm 49 52 σ σ' (imF 1 v)) := by
  have l1 := imF_1 1 v
  refine wk_b tt_140 1 (pc' := 1) (ls' := [(0, .inr (.inr (.ref 45))), (1, .inl (x)), (2, .inl (1))]) (st' := [.inl (1)]) (σ' := σ) rfl ?_
  refine wk_if tt_140 (tgt := 13) rfl rfl (by decide) (fun h1 => ?_) (fun h1 => ?_)
  rotate_left
  · simp only [sg_c, sg_nc] at h1
    exfalso; omega
  · have hl := cv_len hB hv
    have h200 := hv.2.1
    have eim : imF 1 v = [((itF v).length : Int)] ++ imL (imF 0) (itF v) := by simp only [imF, List.cons_append, List.nil_append]
    have l8 : (imL (imF 0) (itF v)).length + 1 = (imF 1 v).length := by rw [eim, List.length_append]; simp only [List.length_cons, List.length_nil]; omega
    refine wk_b tt_140 4 (pc' := 19) (ls' := [(0, .inr (.inr (.ref 45))), (1, .inl (x)), (2, .inl (1))]) (st' := [.inl (x), .inr (.inr (.ref 45)), .inr (.inr (.ref 49))]) (σ' := σ) rfl ?_
    refine wk_callp tt_140 rfl rfl rfl rfl rfl tt_149 rfl (by decide) (w_nLengthOf z σ x rx) ?_
    rw [hl]
    refine wk_call tt_140 rfl rfl rfl rfl rfl tt_91 rfl (by decide) (i49_add z σ ((itF v).length : Int) ⟨by omega, by omega⟩ ⟨by omega, by omega⟩) (fun w8 σ9 hq10 => ?_)
    obtain ⟨rfl, f9, t9⟩ := hq10
    refine wk_b tt_140 2 (pc' := 27) (ls' := [(3, .inl (0)), (0, .inr (.inr (.ref 45))), (1, .inl (x)), (2, .inl (1))]) (st' := []) (σ' := σ9) rfl ?_
    have lp : ∀ (r dn : List vaF) (i : Int) (σ14 : sg_S), dn ++ r = itF v → i = dn.length → sg_F [3049, 52] σ σ14 → aIm 49 52 σ σ14 ([((itF v).length : Int)] ++ imL (imF 0) dn) → wx z 3 140 27 [(0, .inr (.inr (.ref 45))), (1, .inl (x)), (2, .inl (1)), (3, .inl (i))] [] σ14 (fun w σ' => w = none ∧ sg_F [3049, 52] σ σ' ∧ aIm 49 52 σ σ' (imF 1 v)) := fun r => by
      induction r with
      | nil =>
        intro dn i σ14 ed ei F14 T14
        rw [List.append_nil] at ed
        rw [ed] at T14 ei
        have hB14 : sg_g σ14 45 20 ≤ 9003 := by rw [sg_F_g F14 (by rfl)]; exact hB
        have hl14 := cv_len hB14 (cvF_F hv F14 rfl)
        refine wk_b tt_140 3 (pc' := 30) (ls' := [(0, .inr (.inr (.ref 45))), (1, .inl (x)), (2, .inl (1)), (3, .inl (i))]) (st' := [.inl (x), .inr (.inr (.ref 45)), .inl (i)]) (σ' := σ14) rfl ?_
        refine wk_callp tt_140 rfl rfl rfl rfl rfl tt_149 rfl (by decide) (w_nLengthOf z σ14 x rx) ?_
        rw [hl14]
        refine wk_if2 tt_140 (tgt := 62) rfl rfl ⟨by omega, by omega⟩ ⟨by omega, by omega⟩ (fun h28 => ?_) (fun h28 => ?_)
        · refine wk_rV tt_140 rfl rfl ⟨rfl, F14, ?_⟩
          rw [eim]
          exact T14
        · simp only [sg_c, sg_nc] at h28
          exfalso; omega
      | cons w r ih =>
        intro dn i σ14 ed ei F14 T14
        have hB14 : sg_g σ14 45 20 ≤ 9003 := by rw [sg_F_g F14 (by rfl)]; exact hB
        have hv14 := cvF_F hv F14 rfl
        have hl14 := cv_len hB14 hv14
        have ew : (dn ++ [w]) ++ r = itF v := by rw [List.append_assoc]; exact ed
        have lb : dn.length + 1 + r.length = (itF v).length := by rw [← ed, List.length_append, List.length_cons]; omega
        have gw : (itF v)[dn.length]? = some w := by rw [← ed, List.getElem?_append_right (Nat.le_refl _), Nat.sub_self]; rfl
        have ebl : (imL (imF 0) (itF v)).length = (imL (imF 0) dn).length + (imF 0 w).length + (imL (imF 0) r).length := by rw [← ed, imL_a, List.length_append]; simp only [imL, List.length_append]; omega
        have l14 := T14.1
        simp only [List.length_append, List.length_cons, List.length_nil] at l14
        refine wk_b tt_140 3 (pc' := 30) (ls' := [(0, .inr (.inr (.ref 45))), (1, .inl (x)), (2, .inl (1)), (3, .inl (i))]) (st' := [.inl (x), .inr (.inr (.ref 45)), .inl (i)]) (σ' := σ14) rfl ?_
        refine wk_callp tt_140 rfl rfl rfl rfl rfl tt_149 rfl (by decide) (w_nLengthOf z σ14 x rx) ?_
        rw [hl14]
        refine wk_if2 tt_140 (tgt := 62) rfl rfl ⟨by omega, by omega⟩ ⟨by omega, by omega⟩ (fun h28 => ?_) (fun h28 => ?_)
        · simp only [sg_c, sg_nc] at h28
          exfalso; omega
        · refine wk_b tt_140 2 (pc' := 40) (ls' := [(0, .inr (.inr (.ref 45))), (1, .inl (x)), (2, .inl (1)), (3, .inl (i))]) (st' := [.inl (200), .inl (i)]) (σ' := σ14) rfl ?_
          refine wk_if2 tt_140 (tgt := 62) rfl rfl ⟨by omega, by omega⟩ (by decide) (fun h29 => ?_) (fun h29 => ?_)
          · simp only [sg_c, sg_nc] at h29
            exfalso; omega
          · refine wk_b tt_140 4 (pc' := 47) (ls' := [(0, .inr (.inr (.ref 45))), (1, .inl (x)), (2, .inl (1)), (3, .inl (i))]) (st' := [.inl (i), .inl (x), .inr (.inr (.ref 45)), .inr (.inr (.ref 45))]) (σ' := σ14) rfl ?_
            obtain ⟨p1, p2, p3⟩ := cv_item hB14 hv14 gw
            rw [← ei] at p1 p2 p3
            refine wk_callp tt_140 rfl rfl rfl rfl rfl tt_145 rfl (by decide) (w_nItemOf z σ14 x i rx ⟨by omega, by omega⟩ p1) ?_
            generalize v_nItemOf σ14 x i = q34 at p2 p3
            refine wk_b tt_140 3 (pc' := 53) (ls' := [(0, .inr (.inr (.ref 45))), (1, .inl (x)), (2, .inl (1)), (3, .inl (i))]) (st' := [.inl (((1 : Int) - 1)), .inl (q34), .inr (.inr (.ref 45))]) (σ' := σ14) rfl ?_
            rw [show ((1 : Int) - 1) = 0 from rfl]
            refine wk_call tt_140 rfl rfl rfl rfl rfl tt_140 rfl (by decide) (dIt0 z σ14 w q34 p2 hB14 p3 ⟨by omega, by omega⟩) (fun w36 σ37 hq38 => ?_)
            obtain ⟨rfl, f37, t37⟩ := hq38
            refine wk_b tt_140 2 (pc' := 27) (ls' := [(3, .inl ((i + 1))), (0, .inr (.inr (.ref 45))), (1, .inl (x)), (2, .inl (1))]) (st' := []) (σ' := σ37) rfl ?_
            refine wk_ls [(0, .inr (.inr (.ref 45))), (1, .inl (x)), (2, .inl (1)), (3, .inl ((i + 1)))] rfl ⟨rfl, rfl, rfl, rfl, trivial⟩ ?_
            refine ih (dn ++ [w]) (i + 1) σ37 ew (by rw [List.length_append, List.length_cons, List.length_nil]; omega) (sg_F_t F14 f37) ?_
            have := aIm_t T14 t37
            rw [List.append_assoc, ← imL_s] at this
            exact this
    refine wk_ls [(0, .inr (.inr (.ref 45))), (1, .inl (x)), (2, .inl (1)), (3, .inl (0))] rfl ⟨rfl, rfl, rfl, rfl, trivial⟩ ?_
    exact lp (itF v) [] 0 σ9 rfl rfl f9 t9
set_option maxRecDepth 8000 in
theorem dIt2 (z : Value) (σ : sg_S) (v : vaF) (x : Int) (rx : sg_R x) (hB : sg_g σ 45 20 ≤ 9003) (hv : cvF σ 2 v x) (h2 : 0 ≤ sg_g σ 49 2 ∧ sg_g σ 49 2 + (imF 2 v).length ≤ 3001) : wx z 4 140 0 [(0, .inr (.inr (.ref 45))), (1, .inl (x)), (2, .inl (2))] [] σ (fun w σ' => w = none ∧ sg_F [3049, 52] σ σ' ∧ aIm 49 52 σ σ' (imF 2 v)) := by
  have l1 := imF_1 2 v
  refine wk_b tt_140 1 (pc' := 1) (ls' := [(0, .inr (.inr (.ref 45))), (1, .inl (x)), (2, .inl (2))]) (st' := [.inl (2)]) (σ' := σ) rfl ?_
  refine wk_if tt_140 (tgt := 13) rfl rfl (by decide) (fun h1 => ?_) (fun h1 => ?_)
  rotate_left
  · simp only [sg_c, sg_nc] at h1
    exfalso; omega
  · have hl := cv_len hB hv
    have h200 := hv.2.1
    have eim : imF 2 v = [((itF v).length : Int)] ++ imL (imF 1) (itF v) := by simp only [imF, List.cons_append, List.nil_append]
    have l8 : (imL (imF 1) (itF v)).length + 1 = (imF 2 v).length := by rw [eim, List.length_append]; simp only [List.length_cons, List.length_nil]; omega
    refine wk_b tt_140 4 (pc' := 19) (ls' := [(0, .inr (.inr (.ref 45))), (1, .inl (x)), (2, .inl (2))]) (st' := [.inl (x), .inr (.inr (.ref 45)), .inr (.inr (.ref 49))]) (σ' := σ) rfl ?_
    refine wk_callp tt_140 rfl rfl rfl rfl rfl tt_149 rfl (by decide) (w_nLengthOf z σ x rx) ?_
    rw [hl]
    refine wk_call tt_140 rfl rfl rfl rfl rfl tt_91 rfl (by decide) (i49_add z σ ((itF v).length : Int) ⟨by omega, by omega⟩ ⟨by omega, by omega⟩) (fun w8 σ9 hq10 => ?_)
    obtain ⟨rfl, f9, t9⟩ := hq10
    refine wk_b tt_140 2 (pc' := 27) (ls' := [(3, .inl (0)), (0, .inr (.inr (.ref 45))), (1, .inl (x)), (2, .inl (2))]) (st' := []) (σ' := σ9) rfl ?_
    have lp : ∀ (r dn : List vaF) (i : Int) (σ14 : sg_S), dn ++ r = itF v → i = dn.length → sg_F [3049, 52] σ σ14 → aIm 49 52 σ σ14 ([((itF v).length : Int)] ++ imL (imF 1) dn) → wx z 4 140 27 [(0, .inr (.inr (.ref 45))), (1, .inl (x)), (2, .inl (2)), (3, .inl (i))] [] σ14 (fun w σ' => w = none ∧ sg_F [3049, 52] σ σ' ∧ aIm 49 52 σ σ' (imF 2 v)) := fun r => by
      induction r with
      | nil =>
        intro dn i σ14 ed ei F14 T14
        rw [List.append_nil] at ed
        rw [ed] at T14 ei
        have hB14 : sg_g σ14 45 20 ≤ 9003 := by rw [sg_F_g F14 (by rfl)]; exact hB
        have hl14 := cv_len hB14 (cvF_F hv F14 rfl)
        refine wk_b tt_140 3 (pc' := 30) (ls' := [(0, .inr (.inr (.ref 45))), (1, .inl (x)), (2, .inl (2)), (3, .inl (i))]) (st' := [.inl (x), .inr (.inr (.ref 45)), .inl (i)]) (σ' := σ14) rfl ?_
        refine wk_callp tt_140 rfl rfl rfl rfl rfl tt_149 rfl (by decide) (w_nLengthOf z σ14 x rx) ?_
        rw [hl14]
        refine wk_if2 tt_140 (tgt := 62) rfl rfl ⟨by omega, by omega⟩ ⟨by omega, by omega⟩ (fun h28 => ?_) (fun h28 => ?_)
        · refine wk_rV tt_140 rfl rfl ⟨rfl, F14, ?_⟩
          rw [eim]
          exact T14
        · simp only [sg_c, sg_nc] at h28
          exfalso; omega
      | cons w r ih =>
        intro dn i σ14 ed ei F14 T14
        have hB14 : sg_g σ14 45 20 ≤ 9003 := by rw [sg_F_g F14 (by rfl)]; exact hB
        have hv14 := cvF_F hv F14 rfl
        have hl14 := cv_len hB14 hv14
        have ew : (dn ++ [w]) ++ r = itF v := by rw [List.append_assoc]; exact ed
        have lb : dn.length + 1 + r.length = (itF v).length := by rw [← ed, List.length_append, List.length_cons]; omega
        have gw : (itF v)[dn.length]? = some w := by rw [← ed, List.getElem?_append_right (Nat.le_refl _), Nat.sub_self]; rfl
        have ebl : (imL (imF 1) (itF v)).length = (imL (imF 1) dn).length + (imF 1 w).length + (imL (imF 1) r).length := by rw [← ed, imL_a, List.length_append]; simp only [imL, List.length_append]; omega
        have l14 := T14.1
        simp only [List.length_append, List.length_cons, List.length_nil] at l14
        refine wk_b tt_140 3 (pc' := 30) (ls' := [(0, .inr (.inr (.ref 45))), (1, .inl (x)), (2, .inl (2)), (3, .inl (i))]) (st' := [.inl (x), .inr (.inr (.ref 45)), .inl (i)]) (σ' := σ14) rfl ?_
        refine wk_callp tt_140 rfl rfl rfl rfl rfl tt_149 rfl (by decide) (w_nLengthOf z σ14 x rx) ?_
        rw [hl14]
        refine wk_if2 tt_140 (tgt := 62) rfl rfl ⟨by omega, by omega⟩ ⟨by omega, by omega⟩ (fun h28 => ?_) (fun h28 => ?_)
        · simp only [sg_c, sg_nc] at h28
          exfalso; omega
        · refine wk_b tt_140 2 (pc' := 40) (ls' := [(0, .inr (.inr (.ref 45))), (1, .inl (x)), (2, .inl (2)), (3, .inl (i))]) (st' := [.inl (200), .inl (i)]) (σ' := σ14) rfl ?_
          refine wk_if2 tt_140 (tgt := 62) rfl rfl ⟨by omega, by omega⟩ (by decide) (fun h29 => ?_) (fun h29 => ?_)
          · simp only [sg_c, sg_nc] at h29
            exfalso; omega
          · refine wk_b tt_140 4 (pc' := 47) (ls' := [(0, .inr (.inr (.ref 45))), (1, .inl (x)), (2, .inl (2)), (3, .inl (i))]) (st' := [.inl (i), .inl (x), .inr (.inr (.ref 45)), .inr (.inr (.ref 45))]) (σ' := σ14) rfl ?_
            obtain ⟨p1, p2, p3⟩ := cv_item hB14 hv14 gw
            rw [← ei] at p1 p2 p3
            refine wk_callp tt_140 rfl rfl rfl rfl rfl tt_145 rfl (by decide) (w_nItemOf z σ14 x i rx ⟨by omega, by omega⟩ p1) ?_
            generalize v_nItemOf σ14 x i = q34 at p2 p3
            refine wk_b tt_140 3 (pc' := 53) (ls' := [(0, .inr (.inr (.ref 45))), (1, .inl (x)), (2, .inl (2)), (3, .inl (i))]) (st' := [.inl (((2 : Int) - 1)), .inl (q34), .inr (.inr (.ref 45))]) (σ' := σ14) rfl ?_
            rw [show ((2 : Int) - 1) = 1 from rfl]
            refine wk_call tt_140 rfl rfl rfl rfl rfl tt_140 rfl (by decide) (dIt1 z σ14 w q34 p2 hB14 p3 ⟨by omega, by omega⟩) (fun w36 σ37 hq38 => ?_)
            obtain ⟨rfl, f37, t37⟩ := hq38
            refine wk_b tt_140 2 (pc' := 27) (ls' := [(3, .inl ((i + 1))), (0, .inr (.inr (.ref 45))), (1, .inl (x)), (2, .inl (2))]) (st' := []) (σ' := σ37) rfl ?_
            refine wk_ls [(0, .inr (.inr (.ref 45))), (1, .inl (x)), (2, .inl (2)), (3, .inl ((i + 1)))] rfl ⟨rfl, rfl, rfl, rfl, trivial⟩ ?_
            refine ih (dn ++ [w]) (i + 1) σ37 ew (by rw [List.length_append, List.length_cons, List.length_nil]; omega) (sg_F_t F14 f37) ?_
            have := aIm_t T14 t37
            rw [List.append_assoc, ← imL_s] at this
            exact this
    refine wk_ls [(0, .inr (.inr (.ref 45))), (1, .inl (x)), (2, .inl (2)), (3, .inl (0))] rfl ⟨rfl, rfl, rfl, rfl, trivial⟩ ?_
    exact lp (itF v) [] 0 σ9 rfl rfl f9 t9
set_option maxRecDepth 8000 in
theorem dIt3 (z : Value) (σ : sg_S) (v : vaF) (x : Int) (rx : sg_R x) (hB : sg_g σ 45 20 ≤ 9003) (hv : cvF σ 3 v x) (h2 : 0 ≤ sg_g σ 49 2 ∧ sg_g σ 49 2 + (imF 3 v).length ≤ 3001) : wx z 5 140 0 [(0, .inr (.inr (.ref 45))), (1, .inl (x)), (2, .inl (3))] [] σ (fun w σ' => w = none ∧ sg_F [3049, 52] σ σ' ∧ aIm 49 52 σ σ' (imF 3 v)) := by
  have l1 := imF_1 3 v
  refine wk_b tt_140 1 (pc' := 1) (ls' := [(0, .inr (.inr (.ref 45))), (1, .inl (x)), (2, .inl (3))]) (st' := [.inl (3)]) (σ' := σ) rfl ?_
  refine wk_if tt_140 (tgt := 13) rfl rfl (by decide) (fun h1 => ?_) (fun h1 => ?_)
  rotate_left
  · simp only [sg_c, sg_nc] at h1
    exfalso; omega
  · have hl := cv_len hB hv
    have h200 := hv.2.1
    have eim : imF 3 v = [((itF v).length : Int)] ++ imL (imF 2) (itF v) := by simp only [imF, List.cons_append, List.nil_append]
    have l8 : (imL (imF 2) (itF v)).length + 1 = (imF 3 v).length := by rw [eim, List.length_append]; simp only [List.length_cons, List.length_nil]; omega
    refine wk_b tt_140 4 (pc' := 19) (ls' := [(0, .inr (.inr (.ref 45))), (1, .inl (x)), (2, .inl (3))]) (st' := [.inl (x), .inr (.inr (.ref 45)), .inr (.inr (.ref 49))]) (σ' := σ) rfl ?_
    refine wk_callp tt_140 rfl rfl rfl rfl rfl tt_149 rfl (by decide) (w_nLengthOf z σ x rx) ?_
    rw [hl]
    refine wk_call tt_140 rfl rfl rfl rfl rfl tt_91 rfl (by decide) (i49_add z σ ((itF v).length : Int) ⟨by omega, by omega⟩ ⟨by omega, by omega⟩) (fun w8 σ9 hq10 => ?_)
    obtain ⟨rfl, f9, t9⟩ := hq10
    refine wk_b tt_140 2 (pc' := 27) (ls' := [(3, .inl (0)), (0, .inr (.inr (.ref 45))), (1, .inl (x)), (2, .inl (3))]) (st' := []) (σ' := σ9) rfl ?_
    have lp : ∀ (r dn : List vaF) (i : Int) (σ14 : sg_S), dn ++ r = itF v → i = dn.length → sg_F [3049, 52] σ σ14 → aIm 49 52 σ σ14 ([((itF v).length : Int)] ++ imL (imF 2) dn) → wx z 5 140 27 [(0, .inr (.inr (.ref 45))), (1, .inl (x)), (2, .inl (3)), (3, .inl (i))] [] σ14 (fun w σ' => w = none ∧ sg_F [3049, 52] σ σ' ∧ aIm 49 52 σ σ' (imF 3 v)) := fun r => by
      induction r with
      | nil =>
        intro dn i σ14 ed ei F14 T14
        rw [List.append_nil] at ed
        rw [ed] at T14 ei
        have hB14 : sg_g σ14 45 20 ≤ 9003 := by rw [sg_F_g F14 (by rfl)]; exact hB
        have hl14 := cv_len hB14 (cvF_F hv F14 rfl)
        refine wk_b tt_140 3 (pc' := 30) (ls' := [(0, .inr (.inr (.ref 45))), (1, .inl (x)), (2, .inl (3)), (3, .inl (i))]) (st' := [.inl (x), .inr (.inr (.ref 45)), .inl (i)]) (σ' := σ14) rfl ?_
        refine wk_callp tt_140 rfl rfl rfl rfl rfl tt_149 rfl (by decide) (w_nLengthOf z σ14 x rx) ?_
        rw [hl14]
        refine wk_if2 tt_140 (tgt := 62) rfl rfl ⟨by omega, by omega⟩ ⟨by omega, by omega⟩ (fun h28 => ?_) (fun h28 => ?_)
        · refine wk_rV tt_140 rfl rfl ⟨rfl, F14, ?_⟩
          rw [eim]
          exact T14
        · simp only [sg_c, sg_nc] at h28
          exfalso; omega
      | cons w r ih =>
        intro dn i σ14 ed ei F14 T14
        have hB14 : sg_g σ14 45 20 ≤ 9003 := by rw [sg_F_g F14 (by rfl)]; exact hB
        have hv14 := cvF_F hv F14 rfl
        have hl14 := cv_len hB14 hv14
        have ew : (dn ++ [w]) ++ r = itF v := by rw [List.append_assoc]; exact ed
        have lb : dn.length + 1 + r.length = (itF v).length := by rw [← ed, List.length_append, List.length_cons]; omega
        have gw : (itF v)[dn.length]? = some w := by rw [← ed, List.getElem?_append_right (Nat.le_refl _), Nat.sub_self]; rfl
        have ebl : (imL (imF 2) (itF v)).length = (imL (imF 2) dn).length + (imF 2 w).length + (imL (imF 2) r).length := by rw [← ed, imL_a, List.length_append]; simp only [imL, List.length_append]; omega
        have l14 := T14.1
        simp only [List.length_append, List.length_cons, List.length_nil] at l14
        refine wk_b tt_140 3 (pc' := 30) (ls' := [(0, .inr (.inr (.ref 45))), (1, .inl (x)), (2, .inl (3)), (3, .inl (i))]) (st' := [.inl (x), .inr (.inr (.ref 45)), .inl (i)]) (σ' := σ14) rfl ?_
        refine wk_callp tt_140 rfl rfl rfl rfl rfl tt_149 rfl (by decide) (w_nLengthOf z σ14 x rx) ?_
        rw [hl14]
        refine wk_if2 tt_140 (tgt := 62) rfl rfl ⟨by omega, by omega⟩ ⟨by omega, by omega⟩ (fun h28 => ?_) (fun h28 => ?_)
        · simp only [sg_c, sg_nc] at h28
          exfalso; omega
        · refine wk_b tt_140 2 (pc' := 40) (ls' := [(0, .inr (.inr (.ref 45))), (1, .inl (x)), (2, .inl (3)), (3, .inl (i))]) (st' := [.inl (200), .inl (i)]) (σ' := σ14) rfl ?_
          refine wk_if2 tt_140 (tgt := 62) rfl rfl ⟨by omega, by omega⟩ (by decide) (fun h29 => ?_) (fun h29 => ?_)
          · simp only [sg_c, sg_nc] at h29
            exfalso; omega
          · refine wk_b tt_140 4 (pc' := 47) (ls' := [(0, .inr (.inr (.ref 45))), (1, .inl (x)), (2, .inl (3)), (3, .inl (i))]) (st' := [.inl (i), .inl (x), .inr (.inr (.ref 45)), .inr (.inr (.ref 45))]) (σ' := σ14) rfl ?_
            obtain ⟨p1, p2, p3⟩ := cv_item hB14 hv14 gw
            rw [← ei] at p1 p2 p3
            refine wk_callp tt_140 rfl rfl rfl rfl rfl tt_145 rfl (by decide) (w_nItemOf z σ14 x i rx ⟨by omega, by omega⟩ p1) ?_
            generalize v_nItemOf σ14 x i = q34 at p2 p3
            refine wk_b tt_140 3 (pc' := 53) (ls' := [(0, .inr (.inr (.ref 45))), (1, .inl (x)), (2, .inl (3)), (3, .inl (i))]) (st' := [.inl (((3 : Int) - 1)), .inl (q34), .inr (.inr (.ref 45))]) (σ' := σ14) rfl ?_
            rw [show ((3 : Int) - 1) = 2 from rfl]
            refine wk_call tt_140 rfl rfl rfl rfl rfl tt_140 rfl (by decide) (dIt2 z σ14 w q34 p2 hB14 p3 ⟨by omega, by omega⟩) (fun w36 σ37 hq38 => ?_)
            obtain ⟨rfl, f37, t37⟩ := hq38
            refine wk_b tt_140 2 (pc' := 27) (ls' := [(3, .inl ((i + 1))), (0, .inr (.inr (.ref 45))), (1, .inl (x)), (2, .inl (3))]) (st' := []) (σ' := σ37) rfl ?_
            refine wk_ls [(0, .inr (.inr (.ref 45))), (1, .inl (x)), (2, .inl (3)), (3, .inl ((i + 1)))] rfl ⟨rfl, rfl, rfl, rfl, trivial⟩ ?_
            refine ih (dn ++ [w]) (i + 1) σ37 ew (by rw [List.length_append, List.length_cons, List.length_nil]; omega) (sg_F_t F14 f37) ?_
            have := aIm_t T14 t37
            rw [List.append_assoc, ← imL_s] at this
            exact this
    refine wk_ls [(0, .inr (.inr (.ref 45))), (1, .inl (x)), (2, .inl (3)), (3, .inl (0))] rfl ⟨rfl, rfl, rfl, rfl, trivial⟩ ?_
    exact lp (itF v) [] 0 σ9 rfl rfl f9 t9
set_option maxRecDepth 8000 in
theorem dNs0 (z : Value) (σ : sg_S) (v : vaF) (x : Int) (rx : sg_R x) (hB : sg_g σ 45 20 ≤ 9003) (hv : cvF σ 0 v x) (h2 : sg_g σ 49 2 = 0) (hl : (imF 0 v).length ≤ 3001) : wx z 3 139 0 [(0, .inr (.inr (.ref 45))), (1, .inl (x)), (2, .inl (0))] [] σ (fun w σ' => w = none ∧ sg_F [3049, 52] σ σ' ∧ aIm 49 52 σ σ' (imF 0 v)) := by
  refine wk_b tt_139 3 (pc' := 3) (ls' := [(0, .inr (.inr (.ref 45))), (1, .inl (x)), (2, .inl (0))]) (st' := [.inl (0), .inl (x), .inr (.inr (.ref 45))]) (σ' := σ) rfl ?_
  refine wk_call tt_139 rfl rfl rfl rfl rfl tt_140 rfl (by decide) (dIt0 z σ v x rx hB hv (by rw [h2]; omega)) (fun w1 σ2 hq3 => ?_)
  obtain ⟨rfl, f2, t2⟩ := hq3
  exact wk_rV tt_139 rfl rfl ⟨rfl, f2, t2⟩
set_option maxRecDepth 8000 in
theorem dNs1 (z : Value) (σ : sg_S) (v : vaF) (x : Int) (rx : sg_R x) (hB : sg_g σ 45 20 ≤ 9003) (hv : cvF σ 1 v x) (h2 : sg_g σ 49 2 = 0) (hl : (imF 1 v).length ≤ 3001) : wx z 4 139 0 [(0, .inr (.inr (.ref 45))), (1, .inl (x)), (2, .inl (1))] [] σ (fun w σ' => w = none ∧ sg_F [3049, 52] σ σ' ∧ aIm 49 52 σ σ' (imF 1 v)) := by
  refine wk_b tt_139 3 (pc' := 3) (ls' := [(0, .inr (.inr (.ref 45))), (1, .inl (x)), (2, .inl (1))]) (st' := [.inl (1), .inl (x), .inr (.inr (.ref 45))]) (σ' := σ) rfl ?_
  refine wk_call tt_139 rfl rfl rfl rfl rfl tt_140 rfl (by decide) (dIt1 z σ v x rx hB hv (by rw [h2]; omega)) (fun w1 σ2 hq3 => ?_)
  obtain ⟨rfl, f2, t2⟩ := hq3
  exact wk_rV tt_139 rfl rfl ⟨rfl, f2, t2⟩
set_option maxRecDepth 8000 in
theorem dNs2 (z : Value) (σ : sg_S) (v : vaF) (x : Int) (rx : sg_R x) (hB : sg_g σ 45 20 ≤ 9003) (hv : cvF σ 2 v x) (h2 : sg_g σ 49 2 = 0) (hl : (imF 2 v).length ≤ 3001) : wx z 5 139 0 [(0, .inr (.inr (.ref 45))), (1, .inl (x)), (2, .inl (2))] [] σ (fun w σ' => w = none ∧ sg_F [3049, 52] σ σ' ∧ aIm 49 52 σ σ' (imF 2 v)) := by
  refine wk_b tt_139 3 (pc' := 3) (ls' := [(0, .inr (.inr (.ref 45))), (1, .inl (x)), (2, .inl (2))]) (st' := [.inl (2), .inl (x), .inr (.inr (.ref 45))]) (σ' := σ) rfl ?_
  refine wk_call tt_139 rfl rfl rfl rfl rfl tt_140 rfl (by decide) (dIt2 z σ v x rx hB hv (by rw [h2]; omega)) (fun w1 σ2 hq3 => ?_)
  obtain ⟨rfl, f2, t2⟩ := hq3
  exact wk_rV tt_139 rfl rfl ⟨rfl, f2, t2⟩
set_option maxRecDepth 8000 in
theorem dNs3 (z : Value) (σ : sg_S) (v : vaF) (x : Int) (rx : sg_R x) (hB : sg_g σ 45 20 ≤ 9003) (hv : cvF σ 3 v x) (h2 : sg_g σ 49 2 = 0) (hl : (imF 3 v).length ≤ 3001) : wx z 6 139 0 [(0, .inr (.inr (.ref 45))), (1, .inl (x)), (2, .inl (3))] [] σ (fun w σ' => w = none ∧ sg_F [3049, 52] σ σ' ∧ aIm 49 52 σ σ' (imF 3 v)) := by
  refine wk_b tt_139 3 (pc' := 3) (ls' := [(0, .inr (.inr (.ref 45))), (1, .inl (x)), (2, .inl (3))]) (st' := [.inl (3), .inl (x), .inr (.inr (.ref 45))]) (σ' := σ) rfl ?_
  refine wk_call tt_139 rfl rfl rfl rfl rfl tt_140 rfl (by decide) (dIt3 z σ v x rx hB hv (by rw [h2]; omega)) (fun w1 σ2 hq3 => ?_)
  obtain ⟨rfl, f2, t2⟩ := hq3
  exact wk_rV tt_139 rfl rfl ⟨rfl, f2, t2⟩
/-! WHAT THE REFERENCE SHOWS, exactly: letters and numbers; what is open. -/
/-- letters behind what stands there -/
def rTx (σ σ' : sg_S) (l : List Int) : Prop := sg_g σ' 88 78 = sg_g σ 88 78 + l.length ∧ (∀ i, (i < sg_g σ 88 78 ∨ sg_g σ 88 78 + l.length ≤ i) → sg_g σ' 136 i = sg_g σ 136 i) ∧ ∀ (i : Nat) (x : Int), l[i]? = some x → sg_g σ' 136 (sg_g σ 88 78 + i) = x
theorem rTx_0 (σ : sg_S) : rTx σ σ [] := ⟨by simp, fun _ _ => rfl, fun i x h => (by cases h)⟩
theorem rTx_t {σ σ1 σ2 : sg_S} {l m : List Int} (h : rTx σ σ1 l) (g : rTx σ1 σ2 m) : rTx σ σ2 (l ++ m) := by
  obtain ⟨a1, a2, a3⟩ := h
  obtain ⟨b1, b2, b3⟩ := g
  refine ⟨by rw [b1, a1, List.length_append]; omega, fun i hi => by rw [List.length_append] at hi; rw [b2 i (by omega), a2 i (by omega)], fun i x hx => ?_⟩
  by_cases c : i < l.length
  · rw [List.getElem?_append_left c] at hx
    rw [b2 _ (by omega)]
    exact a3 i x hx
  · rw [List.getElem?_append_right (by omega)] at hx
    have := b3 (i - l.length) x hx
    rw [show sg_g σ1 88 78 + ((i - l.length : Nat) : Int) = sg_g σ 88 78 + i by omega] at this
    exact this
theorem rTx_F {K : List Nat} {σ σ1 σ2 : sg_S} {l : List Int} (h : rTx σ σ1 l) (f : sg_F K σ1 σ2) (h1 : sg_cv K 88 78 = false) (h2 : sg_ca K 136 = true) : rTx σ σ2 l := by
  obtain ⟨a1, a2, a3⟩ := h
  exact ⟨by rw [sg_F_g f h1]; exact a1, fun i hi => by rw [sg_F_ga f h2]; exact a2 i hi, fun i x hx => by rw [sg_F_ga f h2]; exact a3 i x hx⟩
theorem m_shX {σ : sg_S} {c : Int} {Q : sg_S → Prop} (h : 0 ≤ sg_g σ 88 78 ∧ sg_g σ 88 78 < 160000) (rc : sg_R c) (k : ∀ σ', rTx σ σ' [c] → sg_F [136, 79088] σ σ' → Q σ') : V_show σ c Q := by
  unfold V_show
  refine ⟨h, fun σ2 e2 => ⟨⟨by omega, by omega⟩, fun σ6 e6 => k σ6 ⟨?_, fun i hi => ?_, fun i x hx => ?_⟩ ?_⟩⟩
  · rw [e6, sg_gw_e _ _ _ _ ⟨by omega, by omega⟩]; rfl
  · simp only [List.length_cons, List.length_nil] at hi
    rw [e6, sg_gw_c _ _ _ _ _ _ (by decide), e2, sg_gw_k _ _ _ _ _ _ (by omega)]
  · cases i with
    | zero =>
      cases hx
      rw [e6, sg_gw_c _ _ _ _ _ _ (by decide), e2]
      simp only [Int.ofNat_zero, Int.cast_ofNat_Int, Int.add_zero]
      exact sg_gw_e _ _ _ _ rc
    | succ i => cases hx
  · rw [e6, e2]; exact sg_F_w (sg_F_w (sg_F_r _ _) rfl _) rfl _
/-- a number -/
theorem m_shNX {σ : sg_S} {a : Int} {Q : sg_S → Prop} (h : 0 ≤ sg_g σ 88 78 ∧ sg_g σ 88 78 + 11 ≤ 160000) (ha : sg_R a) (k : ∀ σ', rTx σ σ' (txN a) → sg_F [136, 79088] σ σ' → Q σ') : V_showNumber σ a Q := by
  have ha1 := ha.1
  have ha2 := ha.2
  unfold V_showNumber
  refine ⟨⟨fun _ => trivial, fun _ => ⟨⟨by omega, by omega⟩, trivial⟩⟩, fun v3 e3 r3 => ⟨fun σ9 => rTx σ σ9 (if a < 0 then [45] else []), ⟨fun q => ?_, fun q => ?_⟩, fun σ9 f9 p9 => ?_⟩⟩
  · rw [if_neg (by omega)]; exact rTx_0 σ
  · rw [if_pos q]
    exact m_shX ⟨by omega, by omega⟩ (by decide) (fun σ' x1 x2 _ => x1)
  have v3b : 0 ≤ v3 ∧ v3 ≤ 2147483648 := by
    by_cases z : 0 ≤ a
    · rw [if_pos z] at e3; omega
    · rw [if_neg z] at e3; omega
  have etx : ∀ c : Nat, v3 < 10 ^ (c + 1) → (c = 0 ∨ (10 : Int) ^ c ≤ v3) → txN a = (if a < 0 then [45] else []) ++ dgs (c + 1) v3 := fun c c1 c2 => by
    have en : nDg v3 = c + 1 := nDg_e v3b.2 (by omega) c1 (by
      rcases c2 with q | q
      · exact Or.inl (by omega)
      · exact Or.inr (by rw [show c + 1 - 1 = c by omega]; exact q))
    unfold txN
    by_cases z : a < 0
    · rw [if_neg (by omega)] at e3
      rw [if_pos z, if_pos z, ← e3, en]; rfl
    · rw [if_pos (by omega)] at e3
      rw [if_neg z, if_neg z, ← e3, en]; rfl
  have l9 : sg_g σ 88 78 ≤ sg_g σ9 88 78 ∧ sg_g σ9 88 78 ≤ sg_g σ 88 78 + 1 := by
    have := p9.1
    split at this
    · simp only [List.length_cons, List.length_nil] at this; omega
    · simp only [List.length_nil] at this; omega
  have dig : ∀ d, 0 < d → d ≤ 2147483648 → (48 + ((sg_l (((sg_l v3 / sg_l d).toInt)) - sg_l (((sg_l v3 / sg_l d).toInt)) / sg_l 10 * sg_l 10).toInt)) = 48 + v3 / d % 10 ∧ 0 ≤ v3 / d % 10 ∧ v3 / d % 10 < 10 := fun d d0 d1 => by
    have q0 : 0 ≤ v3 / d := Int.ediv_nonneg v3b.1 (by omega)
    have q1 : v3 / d ≤ v3 := Int.ediv_le_self _ v3b.1
    rw [dvl ⟨v3b.1, by omega⟩ ⟨d0, by omega⟩, rml ⟨q0, by omega⟩]
    generalize v3 / d = y at *
    exact ⟨rfl, by omega, by omega⟩
  refine ⟨fun n v => n = (2147483649 - v).toNat ∧ ∃ c : Nat, v = 10 ^ c ∧ (c = 0 ∨ (10 : Int) ^ c ≤ v3), fun v => ∃ c : Nat, v = 10 ^ c ∧ (c = 0 ∨ (10 : Int) ^ c ≤ v3) ∧ v3 < 10 ^ (c + 1), ⟨_, rfl, 0, rfl, Or.inl rfl⟩, ?_, ?_⟩
  · rintro n v rv ⟨en, c, ec, hc⟩
    have vb : 1 ≤ v ∧ v ≤ 2147483648 := by
      have p : (0 : Int) < 10 ^ c := Int.pow_pos (by decide)
      rw [ec]
      rcases hc with q | q
      · rw [q]; decide
      · omega
    refine ⟨⟨by omega, by omega⟩, fun q => ⟨c, ec, hc, by rw [Int.pow_succ, ← ec]; exact q⟩, fun q => ⟨_, by omega, rfl, c + 1, by rw [Int.pow_succ, ← ec], Or.inr (by rw [Int.pow_succ, ← ec]; exact q)⟩⟩
  · rintro v rv ⟨c, ec, hc, hc2⟩
    have vb : 1 ≤ v ∧ v ≤ 2147483648 := by
      have p : (0 : Int) < 10 ^ c := Int.pow_pos (by decide)
      rw [ec]
      rcases hc with q | q
      · rw [q]; decide
      · omega
    have c9 : c ≤ 9 := pow10 (by rw [← ec]; exact vb.2)
    obtain ⟨g1, g2, g3⟩ := dig v (by omega) vb.2
    rw [g1]
    refine ⟨fun z => by omega, fun z => ⟨by omega, ⟨by omega, by omega⟩, ⟨by omega, by omega⟩, m_shX ⟨by omega, by omega⟩ ⟨by omega, by omega⟩ (fun σ32 x1 x2 _ => ?_)⟩⟩
    rw [dvl (b := 10) ⟨by omega, by omega⟩ ⟨by decide, by decide⟩]
    refine ⟨fun n w σ38 => ∃ (j : Nat) (t : List Int), n = j ∧ j ≤ c ∧ w = (if j = 0 then 0 else 10 ^ (j - 1)) ∧ rTx σ9 σ38 t ∧ t ++ dgs j v3 = dgs (c + 1) v3, fun σ38 => rTx σ9 σ38 (dgs (c + 1) v3), ⟨c, c, [48 + v3 / v % 10], rfl, Nat.le_refl _, ?_, x1, ?_⟩, ?_, ?_⟩
    · rw [ec]
      cases c with
      | zero => rfl
      | succ c =>
        rw [if_neg (by omega), Int.pow_succ, show c + 1 - 1 = c by omega]
        exact Int.mul_ediv_cancel _ (by decide)
    · rw [ec]; rfl
    · rintro n w σ38 rw' f38 ⟨j, t, en, hj, ew, ht, et⟩
      have lt : (t.length : Int) = c + 1 - j := by
        have := congrArg List.length et
        rw [List.length_append, dgs_l, dgs_l] at this
        omega
      have t1 := ht.1
      cases j with
      | zero =>
        rw [if_pos rfl] at ew
        refine ⟨fun _ => ?_, fun z => by omega⟩
        have : t ++ dgs 0 v3 = t := List.append_nil t
        rw [← et, this]
        exact ht
      | succ j =>
        rw [if_neg (by omega), show j + 1 - 1 = j by omega] at ew
        have p : (0 : Int) < 10 ^ j := Int.pow_pos (by decide)
        have wb : 1 ≤ w ∧ w ≤ 2147483648 := by
          have e9 : (10 : Int) ^ j ≤ 10 ^ 9 := by
            have := Nat.pow_le_pow_right (n := 10) (by decide) (show j ≤ 9 by omega)
            have h2 : ((10 ^ j : Nat) : Int) = (10 : Int) ^ j := by simp
            have h3 : ((10 ^ 9 : Nat) : Int) = (10 : Int) ^ 9 := by simp
            omega
          have e10 : (10 : Int) ^ 9 = 1000000000 := by decide
          omega
        obtain ⟨d1, d2, d3⟩ := dig w (by omega) wb.2
        rw [d1]
        refine ⟨fun z => by omega, fun z => ⟨by omega, ⟨by omega, by omega⟩, ⟨by omega, by omega⟩, m_shX ⟨by omega, by omega⟩ ⟨by omega, by omega⟩ (fun σ57 y1 y2 _ => ?_)⟩⟩
        rw [dvl (b := 10) ⟨by omega, by omega⟩ ⟨by decide, by decide⟩]
        refine ⟨j, by omega, j, t ++ [48 + v3 / w % 10], rfl, by omega, ?_, rTx_t ht y1, ?_⟩
        · rw [ew]
          cases j with
          | zero => rfl
          | succ j =>
            rw [if_neg (by omega), Int.pow_succ, show j + 1 - 1 = j by omega]
            exact Int.mul_ediv_cancel _ (by decide)
        · rw [← et, ew, List.append_assoc]
          rfl
    · intro σ38 f38 q
      refine k σ38 ?_ (sg_F_t (sg_F_t f9 x2) f38)
      rw [etx c hc2 hc]
      exact rTx_t p9 q
/-- what is still to be shown of what is open, the innermost first -/
def rsT (K : Nat) : List (vaF × Nat) → List Int
  | [] => []
  | (v, i) :: fs => ((if i = 0 then txL (txF (K - 1 - fs.length)) (itF v) else txR (txF (K - 1 - fs.length)) ((itF v).drop i)) ++ [93]) ++ rsT K fs
theorem rsT_n {K : Nat} {v : vaF} {i : Nat} {fs : List (vaF × Nat)} (h : i = (itF v).length) : rsT K ((v, i) :: fs) = 93 :: rsT K fs := by
  simp only [rsT]
  by_cases c : i = 0
  · rw [if_pos c]
    have : itF v = [] := by
      cases e : itF v with
      | nil => rfl
      | cons a l => rw [e] at h; simp only [List.length_cons] at h; omega
    rw [this]; rfl
  · rw [if_neg c, h, List.drop_length]; rfl
theorem rsT_c {K : Nat} {v w : vaF} {i : Nat} {fs : List (vaF × Nat)} (h : (itF v)[i]? = some w) : rsT K ((v, i) :: fs) = (if i = 0 then [] else [44]) ++ (txF (K - 1 - fs.length) w ++ rsT K ((v, i + 1) :: fs)) := by
  have hi := gE_l h
  have ed : (itF v).drop i = w :: (itF v).drop (i + 1) := by
    rw [List.drop_eq_getElem_cons hi]
    rw [List.getElem?_eq_getElem hi] at h
    rw [Option.some.inj h]
  simp only [rsT]
  rw [if_neg (show ¬ i + 1 = 0 by omega)]
  by_cases c : i = 0
  · rw [if_pos c, if_pos c]
    rw [c, List.drop_zero] at ed
    rw [c, ed]
    simp only [txL, List.nil_append, List.append_assoc, List.drop_succ_cons, List.drop_zero, Nat.zero_add]
  · rw [if_neg c, if_neg c, ed]
    simp only [txR, List.cons_append, List.nil_append, List.append_assoc]
theorem rsT_p {K : Nat} {w : vaF} {fs : List (vaF × Nat)} (h : fs.length < K) : txF (K - fs.length) w ++ rsT K fs = 91 :: rsT K ((w, 0) :: fs) := by
  obtain ⟨d, hd⟩ : ∃ d, K - fs.length = d + 1 := ⟨K - fs.length - 1, by omega⟩
  have e : K - 1 - fs.length = d := by omega
  rw [hd]
  simp only [rsT, txF, if_true, List.cons_append, List.append_assoc]
  rw [e]
/-! WHAT THE REFERENCE SHOWS of a nested run, exactly. -/
/-- what is open: sequences and how far they are shown, the innermost first -/
def shF (σ σ' : sg_S) (K : Nat) : List (vaF × Nat) → Prop
  | [] => True
  | (v, i) :: fs => shF σ σ' K fs ∧ fs.length < K ∧ rvF σ (K - fs.length) v (sg_g σ' 137 fs.length) ∧ sg_g σ' 138 fs.length = i ∧ i ≤ (itF v).length
theorem shF_e {σ σ1 σ2 : sg_S} {K : Nat} : ∀ {fs : List (vaF × Nat)}, (∀ j : Nat, j < fs.length → sg_g σ2 137 j = sg_g σ1 137 j ∧ sg_g σ2 138 j = sg_g σ1 138 j) → shF σ σ1 K fs → shF σ σ2 K fs
  | [], _, h => h
  | (v, i) :: fs, e, ⟨h1, h2, h3, h4, h5⟩ => by
    obtain ⟨e1, e2⟩ := e fs.length (by simp)
    exact ⟨shF_e (fun j hj => e j (by simp only [List.length_cons]; omega)) h1, h2, by rw [e1]; exact h3, by rw [e2]; exact h4, h5⟩
section SHX
variable {σ : sg_S} {Q : sg_S → Prop}
theorem m_showVX {K : Nat} {v : vaF} (he : sg_g σ 88 53 = 0) (hr : 0 ≤ sg_g σ 88 27 ∧ sg_g σ 88 27 < 210) (hT : sg_g σ 101 (sg_g σ 88 27) = K) (hK : K ≤ 3) (hq : sg_g σ 88 56 ≤ 9000 ∧ sg_g σ 88 60 ≤ 12000) (hv : rvF σ K v (sg_g σ 133 0)) (hb : (txF K v).length ≤ 79000) (k : ∀ σ', sg_g σ' 88 76 = (txF K v).length → (∀ (i : Nat) (x : Int), (txF K v)[i]? = some x → sg_g σ' 136 i = x) → (∀ i, 80000 ≤ i → sg_g σ' 136 i = sg_g σ 136 i) → sg_F [136, 137, 138, 77088, 79088] σ σ' → Q σ') : V_showNested σ Q := by
  unfold V_showNested
  intro σ1 e1
  have F1 : sg_F [136, 137, 138, 77088, 79088] σ σ1 := by rw [e1]; exact sg_F_w (sg_F_r _ _) rfl _
  have a1 : sg_g σ1 88 78 = 0 := by rw [e1, sg_gw_e _ _ _ _ (by decide)]
  refine ⟨fun z => absurd he z, fun _ => ⟨hr, fun t0 => ⟨fun z => absurd he z, fun _ σ105 e105 σ108 e108 => ?_⟩, fun t0 => ?_⟩⟩
  rotate_left
  · rw [hT] at t0
    have K0 : K = 0 := by omega
    subst K0
    have ev : v [] = sg_g σ 133 0 := hv
    have et : txF 0 v = txN (sg_g σ 133 0) := by simp only [txF]; rw [ev]
    refine m_shNX ⟨by omega, by omega⟩ (sg_Rg _ _ _) (fun σ195 x1 x2 _ σ200 e200 => k σ200 ?_ ?_ (fun i hi => ?_) ?_)
    · rw [e200, sg_gw_e _ _ _ _ (sg_Rg _ _ _), x1.1, a1, et, Int.zero_add]
    · intro i x hx
      rw [et] at hx
      have := x1.2.2 i x hx
      rw [a1, Int.zero_add] at this
      rw [e200, sg_gw_c _ _ _ _ _ _ (by decide)]
      exact this
    · rw [e200, sg_gw_c _ _ _ _ _ _ (by decide), x1.2.1 i (Or.inr (by rw [a1, ← et]; omega)), e1, sg_gw_c _ _ _ _ _ _ (by decide)]
    · rw [e200]; exact sg_F_w (sg_F_t F1 (sg_F_m x2 rfl)) rfl _
  · rw [hT] at t0
    obtain ⟨K', rfl⟩ : ∃ K', K = K' + 1 := ⟨K - 1, by omega⟩
    have F108 : sg_F [136, 137, 138, 77088, 79088] σ σ108 := by rw [e108, e105]; exact sg_F_w (sg_F_w F1 rfl _) rfl _
    have a108 : sg_g σ108 88 78 = 0 := by rw [e108, sg_gw_c _ _ _ _ _ _ (by decide), e105, sg_gw_c _ _ _ _ _ _ (by decide)]; exact a1
    have b108 : sg_g σ108 137 0 = sg_g σ 133 0 := by rw [e108, sg_gw_c _ _ _ _ _ _ (by decide), e105, sg_gw_e _ _ _ _ (sg_Rg _ _ _)]
    have c108 : sg_g σ108 138 0 = 0 := by rw [e108, sg_gw_e _ _ _ _ (by decide)]
    refine m_shX ⟨by omega, by omega⟩ (by decide) (fun σ112 x1 x2 _ => ?_)
    have F112 : sg_F [136, 137, 138, 77088, 79088] σ σ112 := sg_F_t F108 (sg_F_m x2 rfl)
    have b112 : sg_g σ112 137 ((0 : Nat) : Int) = sg_g σ 133 0 := (sg_F_ga x2 rfl).trans b108
    have c112 : sg_g σ112 138 ((0 : Nat) : Int) = 0 := (sg_F_ga x2 rfl).trans c108
    refine ⟨fun n v' σ22 => ∃ (fs : List (vaF × Nat)) (t : List Int), v' = fs.length ∧ shF σ σ22 (K' + 1) fs ∧ rTx σ108 σ22 t ∧ t ++ rsT (K' + 1) fs = txF (K' + 1) v ∧ n = (rsT (K' + 1) fs).length, fun σ22 => rTx σ108 σ22 (txF (K' + 1) v), ⟨_, [(v, 0)], [91], rfl, ⟨trivial, by simp, ?_, ?_, Nat.zero_le _⟩, x1, ?_, rfl⟩, ?_, ?_⟩
    · simp only [List.length_nil]
      rw [b112]
      exact hv
    · simp only [List.length_nil]
      rw [c112]; rfl
    · have := rsT_p (K := K' + 1) (w := v) (fs := []) (by simp)
      simp only [List.length_nil, Nat.sub_zero] at this
      have e0 : rsT (K' + 1) [] = [] := rfl
      rw [e0, List.append_nil] at this
      rw [this]; rfl
    · rintro n v' σ22 rv f22 ⟨fs, t, rfl, hs, ht, et, en⟩
      have l78 : sg_g σ22 88 78 = t.length := by rw [ht.1, a108, Int.zero_add]
      have lt : t.length + (rsT (K' + 1) fs).length = (txF (K' + 1) v).length := by rw [← et, List.length_append]
      refine ⟨fun z => ?_, fun z => ?_⟩
      · cases fs with
        | nil =>
          have e0 : rsT (K' + 1) [] = [] := rfl
          rw [e0, List.append_nil] at et
          rw [← et]
          exact ht
        | cons f fs => simp only [List.length_cons] at z; omega
      · cases fs with
        | nil => simp only [List.length_nil] at z; omega
        | cons f fs =>
          obtain ⟨w0, i⟩ := f
          obtain ⟨s1, s2, s3, s4, s5⟩ := hs
          obtain ⟨d, hd⟩ : ∃ d, K' + 1 - fs.length = d + 1 := ⟨K' - fs.length, by omega⟩
          have hd' : K' + 1 - 1 - fs.length = d := by omega
          rw [hd] at s3
          have ee : ((((w0, i) :: fs).length : Nat) : Int) - 1 = (fs.length : Int) := by simp only [List.length_cons]; omega
          have el : ((((w0, i) :: fs).length : Nat) : Int) = (fs.length : Int) + 1 := by simp only [List.length_cons]; omega
          rw [ee]
          have x9 := s3.1
          have m123 := s3.2.2.2.1.1
          have m200 := s3.2.1
          refine ⟨⟨by omega, by omega⟩, ⟨by omega, by omega⟩, ⟨x9.1, by omega⟩, fun v48 σ46 => ∃ (fs' : List (vaF × Nat)) (t' : List Int), v48 = fs'.length ∧ shF σ σ46 (K' + 1) fs' ∧ rTx σ108 σ46 t' ∧ t' ++ rsT (K' + 1) fs' = txF (K' + 1) v ∧ (rsT (K' + 1) fs').length < n, ⟨fun ne => ?_, fun eq => ?_⟩, ?_⟩
          · rw [s4, m123] at ne
            have il : i < (itF w0).length := by omega
            obtain ⟨w, hw⟩ : ∃ w, (itF w0)[i]? = some w := ⟨_, List.getElem?_eq_getElem il⟩
            obtain ⟨pi, ri⟩ := rv_it hq.1 hq.2 s3 hw
            rw [s4]
            have rc := rsT_c (K := K' + 1) (fs := fs) hw
            rw [hd'] at rc
            have ln := congrArg List.length rc
            rw [List.length_append, List.length_append] at ln
            have lc : (if i = 0 then ([] : List Int) else [44]).length ≤ 1 := by split <;> simp
            refine ⟨fun σ55 => rTx σ22 σ55 (if i = 0 then [] else [44]), ⟨fun q => ?_, fun q => ?_⟩, fun σ55 f55 p55 => ⟨pi, ⟨by omega, by omega⟩, fun σ61 e61 => ?_⟩⟩
            · rw [if_pos (by omega)]; exact rTx_0 σ22
            · rw [if_neg (by omega)]
              exact m_shX ⟨by omega, by omega⟩ (by decide) (fun σ' x _ _ => x)
            · have p1 := p55.1
              have g7 : ∀ j, sg_g σ61 137 j = sg_g σ22 137 j := fun j => by rw [e61, sg_gw_c _ _ _ _ _ _ (by decide), sg_F_ga f55 rfl]
              have g8 : ∀ j, ¬ j = (fs.length : Int) → sg_g σ61 138 j = sg_g σ22 138 j := fun j hj => by rw [e61, sg_gw_k _ _ _ _ _ _ hj, sg_F_ga f55 rfl]
              have g8e : sg_g σ61 138 fs.length = (i : Int) + 1 := by rw [e61, sg_gw_e _ _ _ _ ⟨by omega, by omega⟩]
              have t61 : rTx σ108 σ61 (t ++ (if i = 0 then [] else [44])) := rTx_F (rTx_t ht p55) (K := [138]) (by rw [e61]; exact sg_F_w (sg_F_r _ _) rfl _) rfl rfl
              have l61 := t61.1
              rw [a108, Int.zero_add, List.length_append] at l61
              have fr1 : ∀ σ', (∀ j : Nat, j < fs.length + 1 → sg_g σ' 137 j = sg_g σ61 137 j ∧ sg_g σ' 138 j = sg_g σ61 138 j) → shF σ σ' (K' + 1) ((w0, i + 1) :: fs) := fun σ' hσ => by
                obtain ⟨u1, u2⟩ := hσ fs.length (by omega)
                refine ⟨shF_e (fun j hj => ?_) s1, s2, ?_, ?_, by omega⟩
                · obtain ⟨u3, u4⟩ := hσ j (by omega)
                  exact ⟨by rw [u3]; exact g7 j, by rw [u4]; exact g8 j (by omega)⟩
                · rw [hd, u1, g7]; exact s3
                · rw [u2, g8e]; omega
              rw [hT]
              refine ⟨fun tK => ⟨⟨by omega, by omega⟩, fun σ162 e162 σ165 e165 => m_shX ?_ (by decide) (fun σ169 y1 y2 _ => ⟨⟨by omega, by omega⟩, (w, 0) :: (w0, i + 1) :: fs, (t ++ (if i = 0 then [] else [44])) ++ [91], ?_, ?_, ?_, ?_, ?_⟩)⟩, fun tK => m_shNX ?_ (by unfold v_itemAt; exact sg_Rg _ _ _) (fun σ176 y1 y2 _ => ⟨(w0, i + 1) :: fs, (t ++ (if i = 0 then [] else [44])) ++ txN (v_itemAt σ (sg_g σ22 137 fs.length) i), ?_, ?_, ?_, ?_, ?_⟩)⟩
              · have : sg_g σ165 88 78 = sg_g σ61 88 78 := by rw [e165, sg_gw_c _ _ _ _ _ _ (by decide), e162, sg_gw_c _ _ _ _ _ _ (by decide)]
                rw [this]
                exact ⟨by omega, by omega⟩
              · simp only [List.length_cons]; omega
              · have h7 : ∀ j, ¬ j = ((fs.length + 1 : Nat) : Int) → sg_g σ169 137 j = sg_g σ61 137 j := fun j hj => by rw [sg_F_ga y2 rfl, e165, sg_gw_c _ _ _ _ _ _ (by decide), e162, sg_gw_k _ _ _ _ _ _ (by omega)]
                have h8 : ∀ j, ¬ j = ((fs.length + 1 : Nat) : Int) → sg_g σ169 138 j = sg_g σ61 138 j := fun j hj => by rw [sg_F_ga y2 rfl, e165, sg_gw_k _ _ _ _ _ _ (by omega), e162, sg_gw_c _ _ _ _ _ _ (by decide)]
                have h7n : sg_g σ169 137 ((fs.length + 1 : Nat) : Int) = v_itemAt σ (sg_g σ22 137 fs.length) i := by
                  rw [sg_F_ga y2 rfl, e165, sg_gw_c _ _ _ _ _ _ (by decide), e162, show ((fs.length + 1 : Nat) : Int) = ((((w0, i) :: fs).length : Nat) : Int) by simp only [List.length_cons], sg_gw_e _ _ _ _ (by unfold v_itemAt; exact sg_Rg _ _ _)]
                have h8n : sg_g σ169 138 ((fs.length + 1 : Nat) : Int) = 0 := by
                  rw [sg_F_ga y2 rfl, e165, show ((fs.length + 1 : Nat) : Int) = ((((w0, i) :: fs).length : Nat) : Int) by simp only [List.length_cons], sg_gw_e _ _ _ _ (by decide)]
                have dd : K' + 1 - (fs.length + 1) = d := by omega
                refine ⟨fr1 σ169 (fun j hj => ⟨h7 j (by omega), h8 j (by omega)⟩), ?_, ?_, ?_, Nat.zero_le _⟩
                · simp only [List.length_cons]; omega
                · simp only [List.length_cons]
                  rw [h7n, dd]; exact ri
                · simp only [List.length_cons]
                  rw [h8n]; rfl
              · exact rTx_t (rTx_F t61 (K := [137, 138]) (by rw [e165, e162]; exact sg_F_w (sg_F_w (sg_F_r _ _) rfl _) rfl _) rfl rfl) y1
              · have rp := rsT_p (K := K' + 1) (w := w) (fs := (w0, i + 1) :: fs) (by simp only [List.length_cons]; omega)
                simp only [List.length_cons] at rp
                rw [show K' + 1 - (fs.length + 1) = d by omega] at rp
                rw [← et, rc, rp]
                simp only [List.append_assoc, List.cons_append, List.nil_append]
              · have rp := congrArg List.length (rsT_p (K := K' + 1) (w := w) (fs := (w0, i + 1) :: fs) (by simp only [List.length_cons]; omega))
                simp only [List.length_cons, List.length_append] at rp
                rw [show K' + 1 - (fs.length + 1) = d by omega] at rp
                omega
              · exact ⟨by omega, by omega⟩
              · simp only [List.length_cons]
              · exact fr1 σ176 (fun j _ => ⟨sg_F_ga y2 rfl, sg_F_ga y2 rfl⟩)
              · exact rTx_t t61 y1
              · have d0 : d = 0 := by omega
                subst d0
                have ev : w [] = v_itemAt σ (sg_g σ22 137 fs.length) i := ri
                rw [← et, rc]
                simp only [txF, List.append_assoc]
                rw [ev]
              · have d0 : d = 0 := by omega
                subst d0
                have := txN_l (w [])
                simp only [txF] at ln
                omega
          · rw [s4, m123] at eq
            have il : i = (itF w0).length := by omega
            have rn := rsT_n (K := K' + 1) (fs := fs) il
            have ln := congrArg List.length rn
            rw [List.length_cons] at ln
            refine m_shX ⟨by omega, by omega⟩ (by decide) (fun σ188 y1 y2 _ => ⟨⟨by omega, by omega⟩, fs, t ++ [93], by omega, shF_e (fun j _ => ⟨sg_F_ga y2 rfl, sg_F_ga y2 rfl⟩) s1, rTx_t ht y1, ?_, by omega⟩)
            rw [← et, rn]
            simp only [List.append_assoc, List.cons_append, List.nil_append]
          · rintro v48 σ46 r48 f46 ⟨fs', t', g1, g2, g3, g4, g5⟩
            exact ⟨_, g5, fs', t', g1, g2, g3, g4, rfl⟩
    · intro σ22 f22 ht σ132 e132
      refine k σ132 ?_ (fun i x hx => ?_) (fun i hi => ?_) ?_
      · rw [e132, sg_gw_e _ _ _ _ (sg_Rg _ _ _), ht.1, a108, Int.zero_add]
      · have := ht.2.2 i x hx
        rw [a108, Int.zero_add] at this
        rw [e132, sg_gw_c _ _ _ _ _ _ (by decide)]
        exact this
      · rw [e132, sg_gw_c _ _ _ _ _ _ (by decide), ht.2.1 i (Or.inr (by rw [a108]; omega)), e108, sg_gw_c _ _ _ _ _ _ (by decide), e105, sg_gw_c _ _ _ _ _ _ (by decide), e1, sg_gw_c _ _ _ _ _ _ (by decide)]
      · rw [e132]; exact sg_F_w (sg_F_t F112 (sg_F_m f22 rfl)) rfl _
end SHX
/-! WHAT THE REFERENCE SHOWS of a flat run, exactly. -/
/-- what is open -/
def shG (σ' : sg_S) (K : Nat) : List (vaF × Nat) → Prop
  | [] => True
  | (v, i) :: fs => shG σ' K fs ∧ fs.length < K ∧ okF (K - fs.length) [v] ∧ sg_g σ' 137 fs.length = (itF v).length ∧ sg_g σ' 138 fs.length = i ∧ i ≤ (itF v).length
theorem shG_e {σ1 σ2 : sg_S} {K : Nat} : ∀ {fs : List (vaF × Nat)}, (∀ j : Nat, j < fs.length → sg_g σ2 137 j = sg_g σ1 137 j ∧ sg_g σ2 138 j = sg_g σ1 138 j) → shG σ1 K fs → shG σ2 K fs
  | [], _, h => h
  | (v, i) :: fs, e, ⟨h1, h2, h3, h4, h5, h6⟩ => by
    obtain ⟨e1, e2⟩ := e fs.length (by simp)
    exact ⟨shG_e (fun j hj => e j (by simp only [List.length_cons]; omega)) h1, h2, h3, by rw [e1]; exact h4, by rw [e2]; exact h5, h6⟩
/-- the cells of level j that are still to be read -/
def rcL (j : Nat) : List (vaF × Nat) → List Int
  | [] => []
  | (v, i) :: fs => (if fs.length < j then lvl (j - 1 - fs.length) ((itF v).drop i) else []) ++ rcL j fs
theorem dr_i {v w : vaF} {i : Nat} (h : (itF v)[i]? = some w) : (itF v).drop i = w :: (itF v).drop (i + 1) := by
  have hi := gE_l h
  rw [List.drop_eq_getElem_cons hi]
  rw [List.getElem?_eq_getElem hi] at h
  rw [Option.some.inj h]
theorem rcL_n {j : Nat} {v : vaF} {i : Nat} {fs : List (vaF × Nat)} (h : i = (itF v).length) : rcL j ((v, i) :: fs) = rcL j fs := by
  simp only [rcL]
  rw [h, List.drop_length, lvl_0]
  split <;> rfl
theorem rcL_s {v w : vaF} {i : Nat} {fs : List (vaF × Nat)} (h : (itF v)[i]? = some w) : rcL (fs.length + 1) ((v, i) :: fs) = w [] :: rcL (fs.length + 1) ((v, i + 1) :: fs) := by
  simp only [rcL]
  rw [if_pos (Nat.lt_succ_self _), show fs.length + 1 - 1 - fs.length = 0 by omega, dr_i h]
  simp only [lvl, List.map_cons, List.cons_append]
  rw [if_pos (Nat.lt_succ_self _)]
theorem rcL_o {j : Nat} {v : vaF} {i : Nat} {fs : List (vaF × Nat)} (h : j ≤ fs.length) : rcL j ((v, i) :: fs) = rcL j fs := by
  simp only [rcL]
  rw [if_neg (by omega)]; rfl
theorem rcL_d {j : Nat} {v w : vaF} {i : Nat} {fs : List (vaF × Nat)} (h : (itF v)[i]? = some w) (hj : fs.length + 1 < j) : rcL j ((v, i) :: fs) = rcL j ((w, 0) :: (v, i + 1) :: fs) := by
  simp only [rcL, List.length_cons, List.drop_zero]
  rw [if_pos (show fs.length < j by omega), if_pos hj, dr_i h, show j - 1 - fs.length = (j - 1 - (fs.length + 1)) + 1 by omega]
  simp only [lvl]
  rw [flF_c, lvl_a, List.append_assoc, if_pos (show fs.length < j by omega)]
section SHG
variable {σ : sg_S} {Q : sg_S → Prop}
theorem m_showFX {K : Nat} {w0 : vaF} {R : List (Int × Int)} (he : sg_g σ 88 83 = 0) (hr : 0 ≤ sg_g σ 88 27 ∧ sg_g σ 88 27 < 210) (hT : sg_g σ 101 (sg_g σ 88 27) = K) (hK : K ≤ 3) (hq : sg_g σ 88 91 ≤ 60000 ∧ sg_g σ 88 87 ≤ 30000) (hx : fX σ 6000 (sg_g σ 133 0) K [w0] R) (hb : (txF K w0).length ≤ 79000) (k : ∀ σ', sg_g σ' 88 77 = (txF K w0).length → (∀ (i : Nat) (x : Int), (txF K w0)[i]? = some x → sg_g σ' 136 (80000 + i) = x) → (∀ i, i < 80000 → sg_g σ' 136 i = sg_g σ 136 i) → sg_F [136, 137, 138, 151, 78088, 79088] σ σ' → Q σ') : V_showFlat σ Q := by
  have hv1 := hx.1
  have vb := hv1.1
  have ch := hv1.2.2.2.2
  have hl := hx.2.1
  obtain ⟨p0, v0⟩ := pRX (i := 0) hx hq (by simp)
  simp only [Int.ofNat_zero, Int.cast_ofNat_Int, List.getD_cons_zero] at p0 v0
  have row : ∀ t, t ≤ K → ∃ q, fRw σ 6000 q ∧ sg_g σ 140 (4 * sg_g σ 133 0 + t) = q.1 ∧ ((lvl t [w0]).length : Int) = q.2 ∧ ∀ (i : Nat) (x : Int), (lvl t [w0])[i]? = some x → sg_g σ 142 (q.1 + i) = x := fun t ht => by
    obtain ⟨q, hq'⟩ : ∃ q, R[t]? = some q := ⟨_, List.getElem?_eq_getElem (by omega)⟩
    obtain ⟨a1, a2⟩ := fCh_at ch hq'
    have c := hx.2.2.2 t ht
    rw [List.getD_eq_getElem?_getD, hq'] at c
    exact ⟨q, a1, (hv1.2.2.2.1 t q hq').1, c⟩
  unfold V_showFlat
  intro σ1 e1
  have F1 : sg_F [136, 137, 138, 151, 78088, 79088] σ σ1 := by rw [e1]; exact sg_F_w (sg_F_r _ _) rfl _
  have a1 : sg_g σ1 88 78 = 80000 := by rw [e1, sg_gw_e _ _ _ _ ⟨by decide, by decide⟩]
  refine ⟨fun z => absurd he z, fun _ => ⟨hr, fun t0 => ⟨fun z => absurd he z, fun _ => ?_⟩, fun t0 => ?_⟩⟩
  rotate_left
  · rw [hT] at t0
    have K0 : K = 0 := by omega
    subst K0
    have et : txF 0 w0 = txN (v_rowAt σ (sg_g σ 133 0) 0) := by simp only [txF]; rw [v0]
    refine ⟨p0, m_shNX ⟨by omega, by omega⟩ (by unfold v_rowAt; exact sg_Rg _ _ _) (fun σ2 x1 x2 _ => ?_)⟩
    have l2 := x1.1
    rw [← et, a1] at l2
    refine ⟨⟨by omega, by omega⟩, fun σ3 e3 => k σ3 ?_ (fun i x hx' => ?_) (fun i hi => ?_) ?_⟩
    · rw [e3, sg_gw_e _ _ _ _ ⟨by omega, by omega⟩]; omega
    · rw [et] at hx'
      have := x1.2.2 i x hx'
      rw [a1] at this
      rw [e3, sg_gw_c _ _ _ _ _ _ (by decide)]
      exact this
    · rw [e3, sg_gw_c _ _ _ _ _ _ (by decide), x1.2.1 i (Or.inl (by rw [a1]; exact hi)), e1, sg_gw_c _ _ _ _ _ _ (by decide)]
    · rw [e3]; exact sg_F_w (sg_F_t F1 (sg_F_m x2 rfl)) rfl _
  rw [hT] at t0
  rw [hT]
  refine ⟨fun n x σ2 => n = (5 - x).toNat ∧ (0 ≤ x ∧ x ≤ 5) ∧ ∀ j, 0 ≤ j → j < x → sg_g σ2 151 j = 0, fun σ2 => ∀ j, 0 ≤ j → j < 5 → sg_g σ2 151 j = 0, ⟨_, rfl, ⟨by omega, by omega⟩, fun j a b => by omega⟩, ?_, ?_⟩
  · rintro n x σ2 rx f2 ⟨en, hx', h2⟩
    refine ⟨fun z j a b => h2 j a (by omega), fun z => ⟨⟨by omega, by omega⟩, fun σ3 e3 => ⟨⟨by omega, by omega⟩, _, by omega, rfl, ⟨by omega, by omega⟩, fun j a b => ?_⟩⟩⟩
    by_cases c : j = x
    · rw [c, e3, sg_gw_e _ _ _ _ ⟨by decide, by decide⟩]
    · rw [e3, sg_gw_k _ _ _ _ _ _ c]; exact h2 j a (by omega)
  intro σ2 f2 h2
  have F2 : sg_F [136, 137, 138, 151, 78088, 79088] σ σ2 := sg_F_t F1 (sg_F_m f2 rfl)
  obtain ⟨K', rfl⟩ : ∃ K', K = K' + 1 := ⟨K - 1, by omega⟩
  have w00 : 0 ≤ w0 [] := hx.2.2.1.1 w0 (by simp)
  have iw : ((itF w0).length : Int) = w0 [] := by rw [itF_l]; omega
  refine ⟨p0, fun σ3 e3 σ4 e4 => ?_⟩
  have F4 : sg_F [136, 137, 138, 151, 78088, 79088] σ σ4 := by rw [e4, e3]; exact sg_F_w (sg_F_w F2 rfl _) rfl _
  have a4 : sg_g σ4 88 78 = 80000 := by rw [e4, sg_gw_c _ _ _ _ _ _ (by decide), e3, sg_gw_c _ _ _ _ _ _ (by decide), sg_F_g f2 (by rfl)]; exact a1
  have r4 : ∀ i, sg_g σ4 136 i = sg_g σ 136 i := fun i => by rw [e4, sg_gw_c _ _ _ _ _ _ (by decide), e3, sg_gw_c _ _ _ _ _ _ (by decide), sg_F_ga f2 rfl, e1, sg_gw_c _ _ _ _ _ _ (by decide)]
  refine m_shX ⟨by omega, by omega⟩ (by decide) (fun σ5 x1 x2 _ => ?_)
  have F5 : sg_F [136, 137, 138, 151, 78088, 79088] σ σ5 := sg_F_t F4 (sg_F_m x2 rfl)
  have z5 : ∀ j : Nat, j < 5 → sg_g σ5 151 j = 0 := fun j hj => by
    rw [sg_F_ga x2 rfl, e4, sg_gw_c _ _ _ _ _ _ (by decide), e3, sg_gw_c _ _ _ _ _ _ (by decide)]
    exact h2 j (by omega) (by omega)
  have s5 : sg_g σ5 137 ((0 : Nat) : Int) = (itF w0).length := by
    rw [sg_F_ga x2 rfl, e4, sg_gw_c _ _ _ _ _ _ (by decide), e3]
    rw [show ((0 : Nat) : Int) = 0 by rfl, sg_gw_e _ _ _ _ (by unfold v_rowAt; exact sg_Rg _ _ _), v0, iw]
  have i5 : sg_g σ5 138 ((0 : Nat) : Int) = 0 := by
    rw [sg_F_ga x2 rfl, e4, show ((0 : Nat) : Int) = 0 by rfl, sg_gw_e _ _ _ _ ⟨by decide, by decide⟩]
  refine ⟨fun n v' σ6 => ∃ (fs : List (vaF × Nat)) (t : List Int), v' = fs.length ∧ shG σ6 (K' + 1) fs ∧ (∀ j : Nat, 1 ≤ j → j ≤ K' + 1 → 0 ≤ sg_g σ6 151 j ∧ (lvl j [w0]).drop (sg_g σ6 151 j).toNat = rcL j fs) ∧ rTx σ4 σ6 t ∧ t ++ rsT (K' + 1) fs = txF (K' + 1) w0 ∧ n = (rsT (K' + 1) fs).length, fun σ6 => rTx σ4 σ6 (txF (K' + 1) w0), ⟨_, [(w0, 0)], [91], rfl, ⟨trivial, by simp, ?_, ?_, ?_, Nat.zero_le _⟩, fun j j1 j2 => ?_, x1, ?_, rfl⟩, ?_, ?_⟩
  · simp only [List.length_nil, Nat.sub_zero]
    exact hx.2.2.1
  · simp only [List.length_nil]
    exact s5
  · simp only [List.length_nil]
    rw [i5]; rfl
  · rw [z5 j (by omega)]
    refine ⟨Int.le_refl _, ?_⟩
    obtain ⟨j', rfl⟩ : ∃ j', j = j' + 1 := ⟨j - 1, by omega⟩
    simp only [rcL, lvl, flF_1, List.length_nil, List.drop_zero, List.append_nil, Int.toNat_zero]
    rw [if_pos (by omega), show j' + 1 - 1 - 0 = j' by omega]
  · have := rsT_p (K := K' + 1) (w := w0) (fs := []) (by simp)
    simp only [List.length_nil, Nat.sub_zero] at this
    have e0 : rsT (K' + 1) [] = [] := rfl
    rw [e0, List.append_nil] at this
    rw [this]; rfl
  · rintro n v' σ6 rv f6 ⟨fs, t, rfl, hs, hp, ht, et, en⟩
    have l78 : sg_g σ6 88 78 = 80000 + t.length := by rw [ht.1, a4]
    have lt : t.length + (rsT (K' + 1) fs).length = (txF (K' + 1) w0).length := by rw [← et, List.length_append]
    refine ⟨fun z => ?_, fun z => ?_⟩
    · cases fs with
      | nil =>
        have e0 : rsT (K' + 1) [] = [] := rfl
        rw [e0, List.append_nil] at et
        rw [← et]
        exact ht
      | cons f fs => simp only [List.length_cons] at z; omega
    · cases fs with
      | nil => simp only [List.length_nil] at z; omega
      | cons f fs =>
        obtain ⟨v1, i⟩ := f
        obtain ⟨s1, s2, s3, s4, s4', s6⟩ := hs
        obtain ⟨d, hd⟩ : ∃ d, K' + 1 - fs.length = d + 1 := ⟨K' - fs.length, by omega⟩
        have hd' : K' + 1 - 1 - fs.length = d := by omega
        rw [hd] at s3
        have ee : ((((v1, i) :: fs).length : Nat) : Int) - 1 = (fs.length : Int) := by simp only [List.length_cons]; omega
        have el : ((((v1, i) :: fs).length : Nat) : Int) = ((fs.length + 1 : Nat) : Int) := by simp only [List.length_cons]
        rw [ee]
        refine ⟨⟨by omega, by omega⟩, ⟨by omega, by omega⟩, fun v65 σ7 => ∃ (fs' : List (vaF × Nat)) (t' : List Int), v65 = fs'.length ∧ shG σ7 (K' + 1) fs' ∧ (∀ j : Nat, 1 ≤ j → j ≤ K' + 1 → 0 ≤ sg_g σ7 151 j ∧ (lvl j [w0]).drop (sg_g σ7 151 j).toNat = rcL j fs') ∧ rTx σ4 σ7 t' ∧ t' ++ rsT (K' + 1) fs' = txF (K' + 1) w0 ∧ (rsT (K' + 1) fs').length < n, ⟨fun ne => ?_, fun eq => ?_⟩, ?_⟩
        · rw [s4', s4] at ne
          have il : i < (itF v1).length := by omega
          have rl : ((itF v1).length : Int) ≤ 2147483647 := by
            have r0 := sg_Rg σ6 137 (fs.length : Int)
            rw [s4] at r0
            have := r0.2
            omega
          obtain ⟨w, hw⟩ : ∃ w, (itF v1)[i]? = some w := ⟨_, List.getElem?_eq_getElem il⟩
          have hwm : w ∈ itF v1 := List.mem_of_getElem? hw
          rw [s4']
          have rc := rsT_c (K := K' + 1) (fs := fs) hw
          rw [hd'] at rc
          have ln := congrArg List.length rc
          rw [List.length_append, List.length_append] at ln
          have lc : (if i = 0 then ([] : List Int) else [44]).length ≤ 1 := by split <;> simp
          -- the next cell of its level
          obtain ⟨P, hP⟩ : ∃ P : Nat, sg_g σ6 151 ((fs.length + 1 : Nat) : Int) = P := ⟨(sg_g σ6 151 ((fs.length + 1 : Nat) : Int)).toNat, by have := (hp (fs.length + 1) (by omega) (by omega)).1; omega⟩
          have hpD := (hp (fs.length + 1) (by omega) (by omega)).2
          rw [hP, Int.toNat_natCast, rcL_s hw] at hpD
          have gP : (lvl (fs.length + 1) [w0])[P]? = some (w []) := by
            have := congrArg (fun l => l[0]?) hpD
            simp only [List.getElem?_drop, List.getElem?_cons_zero, Nat.add_zero] at this
            exact this
          have lP := gE_l gP
          have hpS : (lvl (fs.length + 1) [w0]).drop (P + 1) = rcL (fs.length + 1) ((v1, i + 1) :: fs) := by
            have := congrArg (fun l => l.drop 1) hpD
            simp only [List.drop_drop, List.drop_succ_cons, List.drop_zero] at this
            exact this
          obtain ⟨q, ⟨z1, z2, z3, z4⟩, q2, q3, q4⟩ := row (fs.length + 1) (by omega)
          have hc := q4 P (w []) gP
          have e140 : sg_g σ 140 (4 * sg_g σ 133 0 + ((((v1, i) :: fs).length : Nat) : Int)) = q.1 := by rw [el]; exact q2
          refine ⟨fun σ7 => rTx σ6 σ7 (if i = 0 then [] else [44]), ⟨fun q => ?_, fun q => ?_⟩, fun σ7 f7 p7 => ⟨⟨by omega, by omega⟩, fun σ8 e8 => ?_⟩⟩
          · rw [if_pos (by omega)]; exact rTx_0 σ6
          · rw [if_neg (by omega)]
            exact m_shX ⟨by omega, by omega⟩ (by decide) (fun σ' x _ _ => x)
          rw [e140, el, hP]
          refine ⟨⟨by omega, by omega⟩, ⟨by omega, by omega⟩, ⟨by omega, by omega⟩, ⟨by omega, by omega⟩, ⟨by omega, by omega⟩, ⟨by omega, by omega⟩, ⟨by omega, by omega⟩, fun σ9 e9 => ?_⟩
          rw [hc]
          have p1 := p7.1
          have g151 : ∀ t : Nat, ¬ t = fs.length + 1 → sg_g σ9 151 t = sg_g σ6 151 t := fun t ht => by rw [e9, sg_gw_k _ _ _ _ _ _ (by omega), e8, sg_gw_c _ _ _ _ _ _ (by decide), sg_F_ga f7 rfl]
          have g151e : sg_g σ9 151 ((fs.length + 1 : Nat) : Int) = (P : Int) + 1 := by rw [e9, sg_gw_e _ _ _ _ ⟨by omega, by omega⟩]
          have g137 : ∀ t : Int, sg_g σ9 137 t = sg_g σ6 137 t := fun t => by rw [e9, sg_gw_c _ _ _ _ _ _ (by decide), e8, sg_gw_c _ _ _ _ _ _ (by decide), sg_F_ga f7 rfl]
          have g138 : ∀ t : Int, ¬ t = (fs.length : Int) → sg_g σ9 138 t = sg_g σ6 138 t := fun t ht => by rw [e9, sg_gw_c _ _ _ _ _ _ (by decide), e8, sg_gw_k _ _ _ _ _ _ ht, sg_F_ga f7 rfl]
          have g138e : sg_g σ9 138 fs.length = (i : Int) + 1 := by rw [e9, sg_gw_c _ _ _ _ _ _ (by decide), e8, sg_gw_e _ _ _ _ ⟨by omega, by omega⟩]
          have t9 : rTx σ4 σ9 (t ++ (if i = 0 then [] else [44])) := rTx_F (rTx_t ht p7) (K := [138, 151]) (by rw [e9, e8]; exact sg_F_w (sg_F_w (sg_F_r _ _) rfl _) rfl _) rfl rfl
          have l9 := t9.1
          rw [a4, List.length_append] at l9
          have fr1 : ∀ σ', (∀ j : Nat, j < fs.length + 1 → sg_g σ' 137 j = sg_g σ9 137 j ∧ sg_g σ' 138 j = sg_g σ9 138 j) → shG σ' (K' + 1) ((v1, i + 1) :: fs) := fun σ' hσ => by
            obtain ⟨u1, u2⟩ := hσ fs.length (by omega)
            refine ⟨shG_e (fun j hj => ?_) s1, s2, by rw [hd]; exact s3, ?_, ?_, by omega⟩
            · obtain ⟨u3, u4⟩ := hσ j (by omega)
              exact ⟨by rw [u3]; exact g137 j, by rw [u4]; exact g138 j (by omega)⟩
            · rw [u1, g137]; exact s4
            · rw [u2, g138e]; omega
          refine ⟨fun tK => ⟨⟨by omega, by omega⟩, fun σ10 e10 σ11 e11 => m_shX ?_ (by decide) (fun σ12 y1 y2 _ => ⟨⟨by omega, by omega⟩, (w, 0) :: (v1, i + 1) :: fs, (t ++ (if i = 0 then [] else [44])) ++ [91], ?_, ?_, ?_, ?_, ?_, ?_⟩)⟩, fun tK => m_shNX ?_ ?_ (fun σ12 y1 y2 _ => ⟨(v1, i + 1) :: fs, (t ++ (if i = 0 then [] else [44])) ++ txN (w []), ?_, ?_, ?_, ?_, ?_, ?_⟩)⟩
          · have : sg_g σ11 88 78 = sg_g σ9 88 78 := by rw [e11, sg_gw_c _ _ _ _ _ _ (by decide), e10, sg_gw_c _ _ _ _ _ _ (by decide)]
            rw [this]
            exact ⟨by omega, by omega⟩
          · simp only [List.length_cons]; omega
          · have okw : okF d [w] ∧ (1 ≤ d → 0 ≤ w []) := by
              have h3 := s3.2
              rw [flF_1] at h3
              obtain ⟨la, lb, eab⟩ := List.append_of_mem hwm
              rw [eab] at h3
              have h4 := ((okF_a d la (w :: lb)).mp h3).2
              have h5 : okF d ([w] ++ lb) := h4
              have h6 := ((okF_a d [w] lb).mp h5).1
              refine ⟨h6, fun h7 => ?_⟩
              obtain ⟨d', rfl⟩ : ∃ d', d = d' + 1 := ⟨d - 1, by omega⟩
              exact h6.1 w (by simp)
            have w0' := okw.2 (by omega)
            have iw' : ((itF w).length : Int) = w [] := by rw [itF_l]; omega
            have h7 : ∀ j, ¬ j = ((fs.length + 1 : Nat) : Int) → sg_g σ12 137 j = sg_g σ9 137 j := fun j hj => by rw [sg_F_ga y2 rfl, e11, sg_gw_c _ _ _ _ _ _ (by decide), e10, sg_gw_k _ _ _ _ _ _ hj]
            have h8 : ∀ j, ¬ j = ((fs.length + 1 : Nat) : Int) → sg_g σ12 138 j = sg_g σ9 138 j := fun j hj => by rw [sg_F_ga y2 rfl, e11, sg_gw_k _ _ _ _ _ _ hj, e10, sg_gw_c _ _ _ _ _ _ (by decide)]
            have rw0 : sg_R (w []) := by rw [← hc]; exact sg_Rg _ _ _
            have h7n : sg_g σ12 137 ((fs.length + 1 : Nat) : Int) = w [] := by rw [sg_F_ga y2 rfl, e11, sg_gw_c _ _ _ _ _ _ (by decide), e10, sg_gw_e _ _ _ _ rw0]
            have h8n : sg_g σ12 138 ((fs.length + 1 : Nat) : Int) = 0 := by rw [sg_F_ga y2 rfl, e11, sg_gw_e _ _ _ _ (by decide)]
            have dd : K' + 1 - (fs.length + 1) = d := by omega
            refine ⟨fr1 σ12 (fun j hj => ⟨h7 j (by omega), h8 j (by omega)⟩), ?_, ?_, ?_, ?_, Nat.zero_le _⟩
            · simp only [List.length_cons]; omega
            · simp only [List.length_cons]
              rw [dd]; exact okw.1
            · simp only [List.length_cons]
              rw [h7n, iw']
            · simp only [List.length_cons]
              rw [h8n]; rfl
          · intro j j1 j2
            have e151 : ∀ t : Int, sg_g σ12 151 t = sg_g σ9 151 t := fun t => by rw [sg_F_ga y2 rfl, e11, sg_gw_c _ _ _ _ _ _ (by decide), e10, sg_gw_c _ _ _ _ _ _ (by decide)]
            rw [e151]
            by_cases c1 : j = fs.length + 1
            · rw [c1, g151e]
              refine ⟨by omega, ?_⟩
              rw [show ((P : Int) + 1).toNat = P + 1 by omega, hpS, rcL_o (v := w) (i := 0) (fs := (v1, i + 1) :: fs) (by simp only [List.length_cons]; omega)]
            · rw [g151 j c1]
              refine ⟨(hp j j1 j2).1, ?_⟩
              rw [(hp j j1 j2).2]
              by_cases c2 : j ≤ fs.length
              · rw [rcL_o c2, rcL_o (v := w) (i := 0) (fs := (v1, i + 1) :: fs) (by simp only [List.length_cons]; omega), rcL_o c2]
              · exact rcL_d hw (by omega)
          · exact rTx_t (rTx_F t9 (K := [137, 138]) (by rw [e11, e10]; exact sg_F_w (sg_F_w (sg_F_r _ _) rfl _) rfl _) rfl rfl) y1
          · have rp := rsT_p (K := K' + 1) (w := w) (fs := (v1, i + 1) :: fs) (by simp only [List.length_cons]; omega)
            simp only [List.length_cons] at rp
            rw [show K' + 1 - (fs.length + 1) = d by omega] at rp
            rw [← et, rc, rp]
            simp only [List.append_assoc, List.cons_append, List.nil_append]
          · have rp := congrArg List.length (rsT_p (K := K' + 1) (w := w) (fs := (v1, i + 1) :: fs) (by simp only [List.length_cons]; omega))
            simp only [List.length_cons, List.length_append] at rp
            rw [show K' + 1 - (fs.length + 1) = d by omega] at rp
            omega
          · exact ⟨by omega, by omega⟩
          · rw [← hc]; exact sg_Rg _ _ _
          · simp only [List.length_cons]
          · exact fr1 σ12 (fun j _ => ⟨sg_F_ga y2 rfl, sg_F_ga y2 rfl⟩)
          · intro j j1 j2
            rw [sg_F_ga (a := 151) y2 rfl]
            by_cases c1 : j = fs.length + 1
            · rw [c1, g151e]
              refine ⟨by omega, ?_⟩
              rw [show ((P : Int) + 1).toNat = P + 1 by omega, hpS]
            · rw [g151 j c1]
              refine ⟨(hp j j1 j2).1, ?_⟩
              rw [(hp j j1 j2).2, rcL_o (by omega), rcL_o (by omega)]
          · exact rTx_t t9 y1
          · have d0 : d = 0 := by omega
            subst d0
            rw [← et, rc]
            simp only [txF, List.append_assoc]
          · have d0 : d = 0 := by omega
            subst d0
            have := txN_l (w [])
            simp only [txF] at ln
            omega
        · rw [s4', s4] at eq
          have il : i = (itF v1).length := by omega
          have rn := rsT_n (K := K' + 1) (fs := fs) il
          have ln := congrArg List.length rn
          rw [List.length_cons] at ln
          refine m_shX ⟨by omega, by omega⟩ (by decide) (fun σ7 y1 y2 _ => ⟨⟨by omega, by omega⟩, fs, t ++ [93], by omega, shG_e (fun j _ => ⟨sg_F_ga y2 rfl, sg_F_ga y2 rfl⟩) s1, fun j j1 j2 => ?_, rTx_t ht y1, ?_, by omega⟩)
          · rw [sg_F_ga (a := 151) y2 rfl, (hp j j1 j2).2, rcL_n il]
            exact ⟨(hp j j1 j2).1, rfl⟩
          · rw [← et, rn]
            simp only [List.append_assoc, List.cons_append, List.nil_append]
        · rintro v65 σ7 r7 f7 ⟨fs', t', g1, g2, g3, g4, g5, g6⟩
          exact ⟨_, g6, fs', t', g1, g2, g3, g4, g5, rfl⟩
  · intro σ6 f6 ht
    have l6 := ht.1
    rw [a4] at l6
    refine ⟨⟨by omega, by omega⟩, fun σ7 e7 => k σ7 ?_ (fun i x hx' => ?_) (fun i hi => ?_) ?_⟩
    · rw [e7, sg_gw_e _ _ _ _ ⟨by omega, by omega⟩]; omega
    · have := ht.2.2 i x hx'
      rw [a4] at this
      rw [e7, sg_gw_c _ _ _ _ _ _ (by decide)]
      exact this
    · rw [e7, sg_gw_c _ _ _ _ _ _ (by decide), ht.2.1 i (Or.inl (by rw [a4]; exact hi)), r4]
    · rw [e7]; exact sg_F_w (sg_F_t F5 (sg_F_m f6 rfl)) rfl _
end SHG
/-! WHAT BOTH SIDES SHOW: the class's ends of runs, exactly. -/
/-- what the class shows of v -/
def cShw (I X V : Nat) (σ : sg_S) (K : Nat) (v : vaF) : Prop := sg_g σ I 5 = (txF K v).length ∧ (∀ (i : Nat) (x : Int), (txF K v)[i]? = some x → i < 2000 → sg_g σ X i = x) ∧ sg_g σ I 2 = (imF K v).length ∧ ∀ (i : Nat) (x : Int), (imF K v)[i]? = some x → sg_g σ V i = x
/-- what the reference shows of v -/
def rShw (f p : Int) (σ : sg_S) (K : Nat) (v : vaF) : Prop := sg_g σ 88 f = (txF K v).length ∧ ∀ (i : Nat) (x : Int), (txF K v)[i]? = some x → sg_g σ 136 (p + i) = x
theorem cv_vk {σ : sg_S} : ∀ {d : Nat} {v : vaF} {x : Int}, cvF σ d v x → sg_R x → vkF d v
  | 0, v, x, h, r => by
    have e : v [] = x := h
    show sg_R (v [])
    rw [e]; exact r
  | d + 1, v, x, h, r => by
    refine ⟨h.2.1, fun w hw => ?_⟩
    obtain ⟨i, hi⟩ := List.getElem?_of_mem hw
    exact cv_vk (h.2.2.2.2 i w hi) (sg_Rg _ _ _)
theorem yX_vk {σ : sg_S} : ∀ {d : Nat} {v : Int} {l : List vaF}, yX σ d v l → ∀ w ∈ l, vkF d w
  | 0, v, l, h, w, hw => by
    obtain ⟨i, hi⟩ := List.getElem?_of_mem hw
    have c := h.2 i (gE_l hi)
    have e : l.getD i (nmF 0) = w := by rw [List.getD_eq_getElem?_getD, hi]; rfl
    rw [e] at c
    show sg_R (w [])
    rw [← c]; exact sg_Rg _ _ _
  | d + 1, v, l, h, w, hw => by
    obtain ⟨i, hi⟩ := List.getElem?_of_mem hw
    obtain ⟨c1, c2, c3⟩ := h.2.1 i (gE_l hi)
    have e : l.getD i (nmF 0) = w := by rw [List.getD_eq_getElem?_getD, hi]; rfl
    rw [e] at c2 c3
    refine ⟨by rw [itF_l]; omega, fun u hu => ?_⟩
    refine yX_vk h.2.2.2 u ?_
    obtain ⟨a, b, eab⟩ := List.append_of_mem hw
    rw [eab, flF_a, flF_c]
    exact List.mem_append_right _ (List.mem_append_left _ hu)
/-- EXTENTS are as long as images -/
theorem imL_f (d : Nat) : ∀ l : List vaF, (imL (imF (d + 1)) l).length = l.length + (imL (imF d) (flF l)).length
  | [] => rfl
  | v :: r => by
    have ih := imL_f d r
    have e1 : imL (imF (d + 1)) (v :: r) = (((itF v).length : Int) :: imL (imF d) (itF v)) ++ imL (imF (d + 1)) r := rfl
    rw [flF_c, imL_a, e1]
    simp only [List.length_append, List.length_cons]
    omega
theorem imL_e : ∀ (d : Nat) (l : List vaF), ((imL (imF d) l).length : Int) = exF d l
  | 0, l => by
    have : (imL (imF 0) l).length = l.length := by
      induction l with
      | nil => rfl
      | cons v r ih =>
        have e1 : imL (imF 0) (v :: r) = [v []] ++ imL (imF 0) r := rfl
        rw [e1]
        simp only [List.length_append, List.length_cons, List.length_nil]; omega
    rw [this]; rfl
  | d + 1, l => by
    have ih := imL_e d (flF l)
    rw [imL_f]
    simp only [exF]
    omega
theorem imF_e (d : Nat) (v : vaF) : ((imF d v).length : Int) = exF d [v] := by
  have := imL_e d [v]
  simp only [imL, List.append_nil] at this
  exact this
set_option maxRecDepth 8000 in
theorem i49_clr (z : Value) (σ : sg_S) : wx z 0 92 0 [(0, .inr (.inr (.ref 49)))] [] σ (fun v σ' => v = none ∧ σ' = sg_w (sg_w σ 49 2 0) 49 5 0) := by
  refine wk_b tt_92 6 (pc' := 10) (ls' := [(0, .inr (.inr (.ref 49)))]) (st' := []) (σ' := (sg_w (sg_w σ 49 2 (0)) 49 5 (0))) rfl ?_
  exact wk_rV tt_92 rfl rfl ⟨rfl, rfl⟩
set_option maxRecDepth 8000 in
theorem i65_clr (z : Value) (σ : sg_S) : wx z 0 92 0 [(0, .inr (.inr (.ref 65)))] [] σ (fun v σ' => v = none ∧ σ' = sg_w (sg_w σ 65 2 0) 65 5 0) := by
  refine wk_b tt_92 6 (pc' := 10) (ls' := [(0, .inr (.inr (.ref 65)))]) (st' := []) (σ' := (sg_w (sg_w σ 65 2 (0)) 65 5 (0))) rfl ?_
  exact wk_rV tt_92 rfl rfl ⟨rfl, rfl⟩
/-- the end of a nested run that came to v -/
theorem n_concX {σ : sg_S} {a1 : Int} {K : Nat} {v : vaF} {Q : sg_S → Prop} (ha : a1 = K) (hK : K ≤ 3) (h10 : sg_g σ 45 10 = 0) (h7 : sg_g σ 45 7 = 1) (hB : sg_g σ 45 20 ≤ 9000) (hv : cvF σ K v (sg_g σ 48 0)) (hl : (imF K v).length ≤ 3001) (k : ∀ σ', sg_F [8045, 12045, 49, 50, 51, 52] σ σ' → sg_g σ' 45 11 = 1 → cShw 49 51 52 σ' K v → Q σ') : V_mnConclude σ a1 Q := by
  unfold V_mnConclude
  intro σ1 e1
  have f1 : sg_F [12045] σ σ1 := by rw [e1]; exact sg_F_w (sg_F_r _ _) rfl _
  unfold V_iClear49
  intro z
  refine wk_post (i49_clr z σ1) ?_
  rintro w σ5 ⟨rfl, e5⟩
  have f5 : sg_F [3049, 6049] σ1 σ5 := by rw [e5]; exact sg_F_w (sg_F_w (sg_F_r _ _) rfl _) rfl _
  refine ⟨rfl, sg_F_m f5 rfl, fun _ => ⟨fun q => absurd h10 q, fun _ => ?_⟩⟩
  have e7 : sg_g σ5 45 7 = 1 := by rw [sg_F_g f5 (by rfl), sg_F_g f1 (by rfl)]; exact h7
  unfold V_mnPop
  refine ⟨by rw [e7]; decide, fun σ12 e12 _ _ => ?_⟩
  have f12 : sg_F [8045] σ5 σ12 := by rw [e12]; exact sg_F_w (sg_F_r _ _) rfl _
  have F12 : sg_F [8045, 12045, 3049, 6049] σ σ12 := sg_F_t (sg_F_t (sg_F_m f1 rfl) (sg_F_m f5 rfl)) (sg_F_m f12 rfl)
  have e11 : sx_at σ5 48 3200 (sg_g σ5 45 7 - 1) = sg_g σ 48 0 := by rw [e7, show (1 : Int) - 1 = 0 from rfl, xa_in ⟨by decide, by decide⟩, sg_F_ga f5 rfl, sg_F_ga f1 rfl]
  rw [e11]
  have cv12 : cvF σ12 K v (sg_g σ 48 0) := cvF_F hv F12 rfl
  have hB12 : sg_g σ12 45 20 ≤ 9003 := by rw [sg_F_g F12 (by rfl)]; omega
  have c2 : sg_g σ12 49 2 = 0 := by rw [sg_F_g f12 (by rfl), e5, sg_gw_k _ _ _ _ _ _ (by decide), sg_gw_e _ _ _ _ (by decide)]
  have kc : K = 0 ∨ K = 1 ∨ K = 2 ∨ K = 3 := by omega
  unfold V_nDraw
  intro z2
  have dr : wx z2 6 139 0 [(0, .inr (.inr (.ref 45))), (1, .inl (sg_g σ 48 0)), (2, .inl a1)] [] σ12 (fun w σ' => w = none ∧ sg_F [3049, 52] σ12 σ' ∧ aIm 49 52 σ12 σ' (imF K v)) := by
    rw [ha]
    rcases kc with rfl | rfl | rfl | rfl
    · exact wk_d (by decide) (dNs0 z2 σ12 v _ (sg_Rg _ _ _) hB12 cv12 c2 hl)
    · exact wk_d (by decide) (dNs1 z2 σ12 v _ (sg_Rg _ _ _) hB12 cv12 c2 hl)
    · exact wk_d (by decide) (dNs2 z2 σ12 v _ (sg_Rg _ _ _) hB12 cv12 c2 hl)
    · exact wk_d (by decide) (dNs3 z2 σ12 v _ (sg_Rg _ _ _) hB12 cv12 c2 hl)
  refine wk_post dr ?_
  rintro w σ18 ⟨rfl, f18, t1, -, t3⟩
  refine ⟨rfl, sg_F_m f18 rfl, fun _ => ?_⟩
  rw [c2, Int.zero_add] at t1
  have hi : ∀ (i : Nat) (x : Int), (imF K v)[i]? = some x → sg_g σ18 52 i = x := fun i x hx => by
    have := t3 i x hx
    rw [c2, Int.zero_add] at this
    exact this
  have vk := cv_vk hv (sg_Rg _ _ _)
  unfold V_iRender49
  intro z3
  have rn : wx z3 6 95 0 [(0, .inr (.inr (.ref 49))), (1, .inl a1)] [] σ18 (fun w σ' => w = none ∧ sg_F [4049, 6049, 50, 51] σ18 σ' ∧ sg_g σ' 49 5 = (txF K v).length ∧ ∀ (i : Nat) (x : Int), (txF K v)[i]? = some x → i < 2000 → sg_g σ' 51 i = x) := by
    rw [ha]
    rcases kc with rfl | rfl | rfl | rfl
    · exact wk_d (by decide) (i49_rn0 z3 σ18 v vk hl hi)
    · exact wk_d (by decide) (i49_rn1 z3 σ18 v vk hl hi)
    · exact wk_d (by decide) (i49_rn2 z3 σ18 v vk hl hi)
    · exact wk_d (by decide) (i49_rn3 z3 σ18 v vk hl hi)
  refine wk_post rn ?_
  rintro w σ24 ⟨rfl, f24, g5, gt⟩
  refine ⟨rfl, sg_F_m f24 rfl, fun _ => k σ24 ?_ ?_ ⟨g5, gt, ?_, fun i x hx => ?_⟩⟩
  · exact sg_F_t (sg_F_m F12 rfl) (sg_F_t (sg_F_m f18 rfl) (sg_F_m f24 rfl))
  · rw [sg_F_g f24 (by rfl), sg_F_g f18 (by rfl), sg_F_g f12 (by rfl), sg_F_g f5 (by rfl), e1, sg_gw_e _ _ _ _ (by decide)]
  · rw [sg_F_g f24 (by rfl)]; exact t1
  · rw [sg_F_ga f24 rfl]; exact hi i x hx
/-- the end of a nested run that came to a FINDING -/
theorem n_concE {σ : sg_S} {a1 : Int} {Q : sg_S → Prop} (h10 : ¬ sg_g σ 45 10 = 0) (k : ∀ σ', sg_F [12045, 49] σ σ' → sg_g σ' 45 11 = 1 → Q σ') : V_mnConclude σ a1 Q := by
  unfold V_mnConclude
  intro σ1 e1
  have f1 : sg_F [12045] σ σ1 := by rw [e1]; exact sg_F_w (sg_F_r _ _) rfl _
  unfold V_iClear49
  intro z
  refine wk_post (i49_clr z σ1) ?_
  rintro w σ5 ⟨rfl, e5⟩
  have f5 : sg_F [3049, 6049] σ1 σ5 := by rw [e5]; exact sg_F_w (sg_F_w (sg_F_r _ _) rfl _) rfl _
  refine ⟨rfl, sg_F_m f5 rfl, fun _ => ⟨fun _ => k σ5 (sg_F_t (sg_F_m f1 rfl) (sg_F_m f5 rfl)) ?_, fun q => absurd q h10⟩⟩
  rw [sg_F_g f5 (by rfl), e1, sg_gw_e _ _ _ _ (by decide)]
/-- pop of the flat run -/
theorem bx_p (z : Value) (σ : sg_S) (h7 : sg_g σ 61 7 = 1) : wx z 1 124 0 [(0, .inr (.inr (.ref 61)))] [] σ (fun v σ' => v = some (.inl (sg_g σ 64 0)) ∧ σ' = sg_w σ 61 7 (((sg_g σ 61 7) - 1))) := by
  refine wk_b tt_124 10 (pc' := 18) (ls' := [(0, .inr (.inr (.ref 61)))]) (st' := [.inl ((sg_g (sg_w σ 61 7 (((sg_g σ 61 7) - 1))) 61 7)), .inr (.inr (.ref 64))]) (σ' := (sg_w σ 61 7 (((sg_g σ 61 7) - 1)))) rfl ?_
  generalize e2 : (sg_w σ 61 7 (((sg_g σ 61 7) - 1))) = σ2
  have g2 : sg_g σ2 61 7 = 0 := by rw [← e2, sg_gw_e _ _ _ _ (by rw [h7]; decide), h7]; rfl
  have g64 : sg_g σ2 64 0 = sg_g σ 64 0 := by rw [← e2, sg_gw_c _ _ _ _ _ _ (by decide)]
  refine wk_callp tt_124 rfl rfl rfl rfl rfl tt_5 rfl (by decide) (at_i z σ2 64 400 ((sg_g σ2 61 7)) rfl (by decide)) ?_
  rw [g2, show sg_n 0 = 0 from sg_id ⟨by decide, by decide⟩, xa_in ⟨by decide, by decide⟩, g64]
  exact wk_rI tt_124 rfl rfl ⟨rfl, rfl⟩
/-- the end of a flat run that came to w0 -/
theorem y_concX {σ : sg_S} {a1 : Int} {K : Nat} {w0 : vaF} {Q : sg_S → Prop} (ha : a1 = K) (hK : K ≤ 3) (h10 : sg_g σ 61 10 = 0) (h7 : sg_g σ 61 7 = 1) (hG : yG σ) (hy : yX σ K (sg_g σ 64 0) [w0]) (hl : (imF K w0).length ≤ 6001) (k : ∀ σ', sg_F [8061, 12061, 65, 66, 67, 68] σ σ' → sg_g σ' 61 11 = 1 → cShw 65 67 68 σ' K w0 → Q σ') : V_fConcl σ a1 Q := by
  unfold V_fConcl
  intro z
  have kc : K = 0 ∨ K = 1 ∨ K = 2 ∨ K = 3 := by omega
  refine wk_b tt_118 5 (pc' := 9) (ls' := [(0, .inr (.inr (.ref 61))), (1, .inl (a1))]) (st' := [.inr (.inr (.ref 65))]) (σ' := (sg_w σ 61 11 (1))) rfl ?_
  generalize e1 : (sg_w σ 61 11 (1)) = σ1
  have f1 : sg_F [12061] σ σ1 := by rw [← e1]; exact sg_F_w (sg_F_r _ _) rfl _
  refine wk_call tt_118 rfl rfl rfl rfl rfl tt_92 rfl (by decide) (i65_clr z σ1) (fun w3 σ5 hq5 => ?_)
  obtain ⟨rfl, e5⟩ := hq5
  have f5 : sg_F [3065, 6065] σ1 σ5 := by rw [e5]; exact sg_F_w (sg_F_w (sg_F_r _ _) rfl _) rfl _
  have e10 : sg_g σ5 61 10 = 0 := by rw [sg_F_g f5 (by rfl), sg_F_g f1 (by rfl)]; exact h10
  have e7 : sg_g σ5 61 7 = 1 := by rw [sg_F_g f5 (by rfl), sg_F_g f1 (by rfl)]; exact h7
  have e64 : sg_g σ5 64 0 = sg_g σ 64 0 := by rw [sg_F_ga f5 rfl, sg_F_ga f1 rfl]
  refine wk_b tt_118 2 (pc' := 16) (ls' := [(0, .inr (.inr (.ref 61))), (1, .inl (a1))]) (st' := [.inl ((sg_g σ5 61 10))]) (σ' := σ5) rfl ?_
  refine wk_if tt_118 (tgt := 36) rfl rfl (sg_Rg _ _ _) (fun q => ?_) (fun q => ?_)
  · simp only [sg_c, sg_nc] at q
    exact absurd e10 q
  refine wk_b tt_118 2 (pc' := 21) (ls' := [(0, .inr (.inr (.ref 61))), (1, .inl (a1))]) (st' := [.inr (.inr (.ref 61)), .inr (.inr (.ref 61))]) (σ' := σ5) rfl ?_
  refine wk_callp tt_118 rfl rfl rfl rfl rfl tt_124 rfl (by decide) (bx_p z σ5 e7) ?_
  rw [e64]
  generalize e12 : (sg_w σ5 61 7 (((sg_g σ5 61 7) - 1))) = σ12
  have f12 : sg_F [8061] σ5 σ12 := by rw [← e12]; exact sg_F_w (sg_F_r _ _) rfl _
  have F12 : sg_F [8061, 12061, 3065, 6065] σ σ12 := sg_F_t (sg_F_t (sg_F_m f1 rfl) (sg_F_m f5 rfl)) (sg_F_m f12 rfl)
  have rv : sg_R (sg_g σ 64 0) := sg_Rg _ _ _
  have G12 : yG σ12 := yG_F hG F12 rfl
  have y12 : yX σ12 K (sg_g σ 64 0) [w0] := yX_up (yEx_F F12 rfl) hy
  have c2 : sg_g σ12 65 2 = 0 := by rw [sg_F_g f12 (by rfl), e5, sg_gw_k _ _ _ _ _ _ (by decide), sg_gw_e _ _ _ _ (by decide)]
  have vk : vkF K w0 := yX_vk hy w0 (by simp)
  generalize sg_g σ 64 0 = q13 at rv y12
  refine wk_b tt_118 1 (pc' := 25) (ls' := [(0, .inr (.inr (.ref 61))), (1, .inl (a1))]) (st' := [.inl (a1), .inl (q13), .inr (.inr (.ref 61))]) (σ' := σ12) rfl ?_
  have dr : wx z 6 61 0 [(0, .inr (.inr (.ref 61))), (1, .inl q13), (2, .inl a1)] [] σ12 (fun w σ' => w = none ∧ sg_F [3065, 68] σ12 σ' ∧ aIm 65 68 σ12 σ' (imF K w0)) := by
    rw [ha]
    rcases kc with rfl | rfl | rfl | rfl
    · exact wk_d (by decide) (dFl0 z σ12 w0 _ rv G12 y12 c2 hl)
    · exact wk_d (by decide) (dFl1 z σ12 w0 _ rv G12 y12 c2 hl)
    · exact wk_d (by decide) (dFl2 z σ12 w0 _ rv G12 y12 c2 hl)
    · exact wk_d (by decide) (dFl3 z σ12 w0 _ rv G12 y12 c2 hl)
  refine wk_call tt_118 rfl rfl rfl rfl rfl tt_61 rfl (by decide) dr (fun w15 σ18 hq17 => ?_)
  obtain ⟨rfl, f18, t1, -, t3⟩ := hq17
  rw [c2, Int.zero_add] at t1
  have hi : ∀ (i : Nat) (x : Int), (imF K w0)[i]? = some x → sg_g σ18 68 i = x := fun i x hx => by
    have := t3 i x hx
    rw [c2, Int.zero_add] at this
    exact this
  refine wk_b tt_118 3 (pc' := 33) (ls' := [(0, .inr (.inr (.ref 61))), (1, .inl (a1))]) (st' := [.inl (a1), .inr (.inr (.ref 65))]) (σ' := σ18) rfl ?_
  have rn : wx z 6 95 0 [(0, .inr (.inr (.ref 65))), (1, .inl a1)] [] σ18 (fun w σ' => w = none ∧ sg_F [4065, 6065, 66, 67] σ18 σ' ∧ sg_g σ' 65 5 = (txF K w0).length ∧ ∀ (i : Nat) (x : Int), (txF K w0)[i]? = some x → i < 2000 → sg_g σ' 67 i = x) := by
    rw [ha]
    rcases kc with rfl | rfl | rfl | rfl
    · exact wk_d (by decide) (i65_rn0 z σ18 w0 vk hl hi)
    · exact wk_d (by decide) (i65_rn1 z σ18 w0 vk hl hi)
    · exact wk_d (by decide) (i65_rn2 z σ18 w0 vk hl hi)
    · exact wk_d (by decide) (i65_rn3 z σ18 w0 vk hl hi)
  refine wk_call tt_118 rfl rfl rfl rfl rfl tt_95 rfl (by decide) rn (fun w20 σ24 hq22 => ?_)
  obtain ⟨rfl, f24, g5, gt⟩ := hq22
  have FF : sg_F [8061, 12061, 65, 66, 67, 68] σ σ24 := sg_F_t (sg_F_m F12 rfl) (sg_F_t (sg_F_m f18 rfl) (sg_F_m f24 rfl))
  refine wk_rV tt_118 rfl rfl ⟨rfl, sg_F_m FF rfl, k σ24 FF ?_ ⟨g5, gt, ?_, fun i x hx => ?_⟩⟩
  · rw [sg_F_g f24 (by rfl), sg_F_g f18 (by rfl), sg_F_g f12 (by rfl), sg_F_g f5 (by rfl), ← e1, sg_gw_e _ _ _ _ (by decide)]
  · rw [sg_F_g f24 (by rfl)]; exact t1
  · rw [sg_F_ga f24 rfl]; exact hi i x hx
/-- the end of a flat run that came to a FINDING -/
theorem y_concE {σ : sg_S} {a1 : Int} {Q : sg_S → Prop} (h10 : ¬ sg_g σ 61 10 = 0) (k : ∀ σ', sg_F [12061, 65] σ σ' → sg_g σ' 61 11 = 1 → Q σ') : V_fConcl σ a1 Q := by
  unfold V_fConcl
  intro z
  refine wk_b tt_118 5 (pc' := 9) (ls' := [(0, .inr (.inr (.ref 61))), (1, .inl (a1))]) (st' := [.inr (.inr (.ref 65))]) (σ' := (sg_w σ 61 11 (1))) rfl ?_
  generalize e1 : (sg_w σ 61 11 (1)) = σ1
  have f1 : sg_F [12061] σ σ1 := by rw [← e1]; exact sg_F_w (sg_F_r _ _) rfl _
  refine wk_call tt_118 rfl rfl rfl rfl rfl tt_92 rfl (by decide) (i65_clr z σ1) (fun w3 σ5 hq5 => ?_)
  obtain ⟨rfl, e5⟩ := hq5
  have f5 : sg_F [3065, 6065] σ1 σ5 := by rw [e5]; exact sg_F_w (sg_F_w (sg_F_r _ _) rfl _) rfl _
  have e10 : ¬ sg_g σ5 61 10 = 0 := by rw [sg_F_g f5 (by rfl), sg_F_g f1 (by rfl)]; exact h10
  refine wk_b tt_118 2 (pc' := 16) (ls' := [(0, .inr (.inr (.ref 61))), (1, .inl (a1))]) (st' := [.inl ((sg_g σ5 61 10))]) (σ' := σ5) rfl ?_
  refine wk_if tt_118 (tgt := 36) rfl rfl (sg_Rg _ _ _) (fun q => ?_) (fun q => ?_)
  · refine wk_rV tt_118 rfl rfl ⟨rfl, sg_F_t (sg_F_m f1 rfl) (sg_F_m f5 rfl), k σ5 (sg_F_t (sg_F_m f1 rfl) (sg_F_m f5 rfl)) ?_⟩
    rw [sg_F_g f5 (by rfl), ← e1, sg_gw_e _ _ _ _ (by decide)]
  · simp only [sg_c, sg_nc] at q
    exact absurd q e10
