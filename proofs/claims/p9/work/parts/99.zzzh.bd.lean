/-! THE CLASS DRAWS what a nested run came to, exactly. -/
set_option maxRecDepth 8000 in
theorem dIt0 (z : Value) (σ : sg_S) (v : vaF) (x : Int) (rx : sg_R x) (hB : sg_g σ 45 20 ≤ 9003) (hv : cvF σ 0 v x) (h2 : 0 ≤ sg_g σ 49 2 ∧ sg_g σ 49 2 + (imF 0 v).length ≤ 3001) : wx z 2 140 0 [(0, .inr (.inr (.ref 45))), (1, .inl (x)), (2, .inl (0))] [] σ (fun w σ' => w = none ∧ sg_F [3049, 52] σ σ' ∧ aIm 49 52 σ σ' (imF 0 v)) := by
  have l1 := imF_1 0 v
  refine wk_b tt_140 1 (pc' := 1) (ls' := [(0, .inr (.inr (.ref 45))), (1, .inl (x)), (2, .inl (0))]) (st' := [.inl (0)]) (σ' := σ) rfl ?_
  refine wk_if tt_140 (tgt := 13) rfl rfl (by decide) (fun h1 => ?_) (fun h1 => ?_)
  · simp only [sg_c, sg_nc] at h1
    exfalso; omega
  · refine wk_b tt_140 3 (pc' := 9) (ls' := [(0, .inr (.inr (.ref 45))), (1, .inl (x)), (2, .inl (0))]) (st' := [.inl (x), .inr (.inr (.ref 49))]) (σ' := σ) rfl ?_
    refine wk_call tt_140 rfl rfl rfl rfl rfl tt_91 rfl (by decide) (i49_add z σ x rx ⟨by omega, by omega⟩) (fun w41 σ42 hq43 => ?_)
    obtain ⟨rfl, f42, t42⟩ := hq43
    refine wk_rV tt_140 rfl rfl ⟨rfl, f42, ?_⟩
    have e : v [] = x := hv
    simp only [imF]
    rw [e]
    exact t42
set_option maxRecDepth 8000 in
theorem dIt1 (z : Value) (σ : sg_S) (v : vaF) (x : Int) (rx : sg_R x) (hB : sg_g σ 45 20 ≤ 9003) (hv : cvF σ 1 v x) (h2 : 0 ≤ sg_g σ 49 2 ∧ sg_g σ 49 2 + (imF 1 v).length ≤ 3001) : wx z 3 140 0 [(0, .inr (.inr (.ref 45))), (1, .inl (x)), (2, .inl (1))] [] σ (fun w σ' => w = none ∧ sg_F [3049, 52] σ σ' ∧ aIm 49 52 σ σ' (imF 1 v)) := by
  have l1 := imF_1 1 v
  refine wk_b tt_140 1 (pc' := 1) (ls' := [(0, .inr (.inr (.ref 45))), (1, .inl (x)), (2, .inl (1))]) (st' := [.inl (1)]) (σ' := σ) rfl ?_
  refine wk_if tt_140 (tgt := 13) rfl rfl (by decide) (fun h1 => ?_) (fun h1 => ?_)
  rotate_left
  · simp only [sg_c, sg_nc] at h1
    exfalso; omega
  · have hl := cv_len hB hv
    have h200 := hv.2.1
    have eim : imF 1 v = [((itF v).length : Int)] ++ imL (imF 0) (itF v) := by simp only [imF, List.cons_append, List.nil_append]
    have l8 : (imL (imF 0) (itF v)).length + 1 = (imF 1 v).length := by rw [eim, List.length_append]; simp only [List.length_cons, List.length_nil]; omega
    refine wk_b tt_140 4 (pc' := 19) (ls' := [(0, .inr (.inr (.ref 45))), (1, .inl (x)), (2, .inl (1))]) (st' := [.inl (x), .inr (.inr (.ref 45)), .inr (.inr (.ref 49))]) (σ' := σ) rfl ?_
    refine wk_callp tt_140 rfl rfl rfl rfl rfl tt_149 rfl (by decide) (w_nLengthOf z σ x rx) ?_
    rw [hl]
    refine wk_call tt_140 rfl rfl rfl rfl rfl tt_91 rfl (by decide) (i49_add z σ ((itF v).length : Int) ⟨by omega, by omega⟩ ⟨by omega, by omega⟩) (fun w8 σ9 hq10 => ?_)
    obtain ⟨rfl, f9, t9⟩ := hq10
    refine wk_b tt_140 2 (pc' := 27) (ls' := [(3, .inl (0)), (0, .inr (.inr (.ref 45))), (1, .inl (x)), (2, .inl (1))]) (st' := []) (σ' := σ9) rfl ?_
    have lp : ∀ (r dn : List vaF) (i : Int) (σ14 : sg_S), dn ++ r = itF v → i = dn.length → sg_F [3049, 52] σ σ14 → aIm 49 52 σ σ14 ([((itF v).length : Int)] ++ imL (imF 0) dn) → wx z 3 140 27 [(0, .inr (.inr (.ref 45))), (1, .inl (x)), (2, .inl (1)), (3, .inl (i))] [] σ14 (fun w σ' => w = none ∧ sg_F [3049, 52] σ σ' ∧ aIm 49 52 σ σ' (imF 1 v)) := fun r => by
      induction r with
      | nil =>
        intro dn i σ14 ed ei F14 T14
        rw [List.append_nil] at ed
        rw [ed] at T14 ei
        have hB14 : sg_g σ14 45 20 ≤ 9003 := by rw [sg_F_g F14 (by rfl)]; exact hB
        have hl14 := cv_len hB14 (cvF_F hv F14 rfl)
        refine wk_b tt_140 3 (pc' := 30) (ls' := [(0, .inr (.inr (.ref 45))), (1, .inl (x)), (2, .inl (1)), (3, .inl (i))]) (st' := [.inl (x), .inr (.inr (.ref 45)), .inl (i)]) (σ' := σ14) rfl ?_
        refine wk_callp tt_140 rfl rfl rfl rfl rfl tt_149 rfl (by decide) (w_nLengthOf z σ14 x rx) ?_
        rw [hl14]
        refine wk_if2 tt_140 (tgt := 62) rfl rfl ⟨by omega, by omega⟩ ⟨by omega, by omega⟩ (fun h28 => ?_) (fun h28 => ?_)
        · refine wk_rV tt_140 rfl rfl ⟨rfl, F14, ?_⟩
          rw [eim]
          exact T14
        · simp only [sg_c, sg_nc] at h28
          exfalso; omega
      | cons w r ih =>
        intro dn i σ14 ed ei F14 T14
        have hB14 : sg_g σ14 45 20 ≤ 9003 := by rw [sg_F_g F14 (by rfl)]; exact hB
        have hv14 := cvF_F hv F14 rfl
        have hl14 := cv_len hB14 hv14
        have ew : (dn ++ [w]) ++ r = itF v := by rw [List.append_assoc]; exact ed
        have lb : dn.length + 1 + r.length = (itF v).length := by rw [← ed, List.length_append, List.length_cons]; omega
        have gw : (itF v)[dn.length]? = some w := by rw [← ed, List.getElem?_append_right (Nat.le_refl _), Nat.sub_self]; rfl
        have ebl : (imL (imF 0) (itF v)).length = (imL (imF 0) dn).length + (imF 0 w).length + (imL (imF 0) r).length := by rw [← ed, imL_a, List.length_append]; simp only [imL, List.length_append]; omega
        have l14 := T14.1
        simp only [List.length_append, List.length_cons, List.length_nil] at l14
        refine wk_b tt_140 3 (pc' := 30) (ls' := [(0, .inr (.inr (.ref 45))), (1, .inl (x)), (2, .inl (1)), (3, .inl (i))]) (st' := [.inl (x), .inr (.inr (.ref 45)), .inl (i)]) (σ' := σ14) rfl ?_
        refine wk_callp tt_140 rfl rfl rfl rfl rfl tt_149 rfl (by decide) (w_nLengthOf z σ14 x rx) ?_
        rw [hl14]
        refine wk_if2 tt_140 (tgt := 62) rfl rfl ⟨by omega, by omega⟩ ⟨by omega, by omega⟩ (fun h28 => ?_) (fun h28 => ?_)
        · simp only [sg_c, sg_nc] at h28
          exfalso; omega
        · refine wk_b tt_140 2 (pc' := 40) (ls' := [(0, .inr (.inr (.ref 45))), (1, .inl (x)), (2, .inl (1)), (3, .inl (i))]) (st' := [.inl (200), .inl (i)]) (σ' := σ14) rfl ?_
          refine wk_if2 tt_140 (tgt := 62) rfl rfl ⟨by omega, by omega⟩ (by decide) (fun h29 => ?_) (fun h29 => ?_)
          · simp only [sg_c, sg_nc] at h29
            exfalso; omega
          · refine wk_b tt_140 4 (pc' := 47) (ls' := [(0, .inr (.inr (.ref 45))), (1, .inl (x)), (2, .inl (1)), (3, .inl (i))]) (st' := [.inl (i), .inl (x), .inr (.inr (.ref 45)), .inr (.inr (.ref 45))]) (σ' := σ14) rfl ?_
            obtain ⟨p1, p2, p3⟩ := cv_item hB14 hv14 gw
            rw [← ei] at p1 p2 p3
            refine wk_callp tt_140 rfl rfl rfl rfl rfl tt_145 rfl (by decide) (w_nItemOf z σ14 x i rx ⟨by omega, by omega⟩ p1) ?_
            generalize v_nItemOf σ14 x i = q34 at p2 p3
            refine wk_b tt_140 3 (pc' := 53) (ls' := [(0, .inr (.inr (.ref 45))), (1, .inl (x)), (2, .inl (1)), (3, .inl (i))]) (st' := [.inl (((1 : Int) - 1)), .inl (q34), .inr (.inr (.ref 45))]) (σ' := σ14) rfl ?_
            rw [show ((1 : Int) - 1) = 0 from rfl]
            refine wk_call tt_140 rfl rfl rfl rfl rfl tt_140 rfl (by decide) (dIt0 z σ14 w q34 p2 hB14 p3 ⟨by omega, by omega⟩) (fun w36 σ37 hq38 => ?_)
            obtain ⟨rfl, f37, t37⟩ := hq38
            refine wk_b tt_140 2 (pc' := 27) (ls' := [(3, .inl ((i + 1))), (0, .inr (.inr (.ref 45))), (1, .inl (x)), (2, .inl (1))]) (st' := []) (σ' := σ37) rfl ?_
            refine wk_ls [(0, .inr (.inr (.ref 45))), (1, .inl (x)), (2, .inl (1)), (3, .inl ((i + 1)))] rfl ⟨rfl, rfl, rfl, rfl, trivial⟩ ?_
            refine ih (dn ++ [w]) (i + 1) σ37 ew (by rw [List.length_append, List.length_cons, List.length_nil]; omega) (sg_F_t F14 f37) ?_
            have := aIm_t T14 t37
            rw [List.append_assoc, ← imL_s] at this
            exact this
    refine wk_ls [(0, .inr (.inr (.ref 45))), (1, .inl (x)), (2, .inl (1)), (3, .inl (0))] rfl ⟨rfl, rfl, rfl, rfl, trivial⟩ ?_
    exact lp (itF v) [] 0 σ9 rfl rfl f9 t9
set_option maxRecDepth 8000 in
theorem dIt2 (z : Value) (σ : sg_S) (v : vaF) (x : Int) (rx : sg_R x) (hB : sg_g σ 45 20 ≤ 9003) (hv : cvF σ 2 v x) (h2 : 0 ≤ sg_g σ 49 2 ∧ sg_g σ 49 2 + (imF 2 v).length ≤ 3001) : wx z 4 140 0 [(0, .inr (.inr (.ref 45))), (1, .inl (x)), (2, .inl (2))] [] σ (fun w σ' => w = none ∧ sg_F [3049, 52] σ σ' ∧ aIm 49 52 σ σ' (imF 2 v)) := by
  have l1 := imF_1 2 v
  refine wk_b tt_140 1 (pc' := 1) (ls' := [(0, .inr (.inr (.ref 45))), (1, .inl (x)), (2, .inl (2))]) (st' := [.inl (2)]) (σ' := σ) rfl ?_
  refine wk_if tt_140 (tgt := 13) rfl rfl (by decide) (fun h1 => ?_) (fun h1 => ?_)
  rotate_left
  · simp only [sg_c, sg_nc] at h1
    exfalso; omega
  · have hl := cv_len hB hv
    have h200 := hv.2.1
    have eim : imF 2 v = [((itF v).length : Int)] ++ imL (imF 1) (itF v) := by simp only [imF, List.cons_append, List.nil_append]
    have l8 : (imL (imF 1) (itF v)).length + 1 = (imF 2 v).length := by rw [eim, List.length_append]; simp only [List.length_cons, List.length_nil]; omega
    refine wk_b tt_140 4 (pc' := 19) (ls' := [(0, .inr (.inr (.ref 45))), (1, .inl (x)), (2, .inl (2))]) (st' := [.inl (x), .inr (.inr (.ref 45)), .inr (.inr (.ref 49))]) (σ' := σ) rfl ?_
    refine wk_callp tt_140 rfl rfl rfl rfl rfl tt_149 rfl (by decide) (w_nLengthOf z σ x rx) ?_
    rw [hl]
    refine wk_call tt_140 rfl rfl rfl rfl rfl tt_91 rfl (by decide) (i49_add z σ ((itF v).length : Int) ⟨by omega, by omega⟩ ⟨by omega, by omega⟩) (fun w8 σ9 hq10 => ?_)
    obtain ⟨rfl, f9, t9⟩ := hq10
    refine wk_b tt_140 2 (pc' := 27) (ls' := [(3, .inl (0)), (0, .inr (.inr (.ref 45))), (1, .inl (x)), (2, .inl (2))]) (st' := []) (σ' := σ9) rfl ?_
    have lp : ∀ (r dn : List vaF) (i : Int) (σ14 : sg_S), dn ++ r = itF v → i = dn.length → sg_F [3049, 52] σ σ14 → aIm 49 52 σ σ14 ([((itF v).length : Int)] ++ imL (imF 1) dn) → wx z 4 140 27 [(0, .inr (.inr (.ref 45))), (1, .inl (x)), (2, .inl (2)), (3, .inl (i))] [] σ14 (fun w σ' => w = none ∧ sg_F [3049, 52] σ σ' ∧ aIm 49 52 σ σ' (imF 2 v)) := fun r => by
      induction r with
      | nil =>
        intro dn i σ14 ed ei F14 T14
        rw [List.append_nil] at ed
        rw [ed] at T14 ei
        have hB14 : sg_g σ14 45 20 ≤ 9003 := by rw [sg_F_g F14 (by rfl)]; exact hB
        have hl14 := cv_len hB14 (cvF_F hv F14 rfl)
        refine wk_b tt_140 3 (pc' := 30) (ls' := [(0, .inr (.inr (.ref 45))), (1, .inl (x)), (2, .inl (2)), (3, .inl (i))]) (st' := [.inl (x), .inr (.inr (.ref 45)), .inl (i)]) (σ' := σ14) rfl ?_
        refine wk_callp tt_140 rfl rfl rfl rfl rfl tt_149 rfl (by decide) (w_nLengthOf z σ14 x rx) ?_
        rw [hl14]
        refine wk_if2 tt_140 (tgt := 62) rfl rfl ⟨by omega, by omega⟩ ⟨by omega, by omega⟩ (fun h28 => ?_) (fun h28 => ?_)
        · refine wk_rV tt_140 rfl rfl ⟨rfl, F14, ?_⟩
          rw [eim]
          exact T14
        · simp only [sg_c, sg_nc] at h28
          exfalso; omega
      | cons w r ih =>
        intro dn i σ14 ed ei F14 T14
        have hB14 : sg_g σ14 45 20 ≤ 9003 := by rw [sg_F_g F14 (by rfl)]; exact hB
        have hv14 := cvF_F hv F14 rfl
        have hl14 := cv_len hB14 hv14
        have ew : (dn ++ [w]) ++ r = itF v := by rw [List.append_assoc]; exact ed
        have lb : dn.length + 1 + r.length = (itF v).length := by rw [← ed, List.length_append, List.length_cons]; omega
        have gw : (itF v)[dn.length]? = some w := by rw [← ed, List.getElem?_append_right (Nat.le_refl _), Nat.sub_self]; rfl
        have ebl : (imL (imF 1) (itF v)).length = (imL (imF 1) dn).length + (imF 1 w).length + (imL (imF 1) r).length := by rw [← ed, imL_a, List.length_append]; simp only [imL, List.length_append]; omega
        have l14 := T14.1
        simp only [List.length_append, List.length_cons, List.length_nil] at l14
        refine wk_b tt_140 3 (pc' := 30) (ls' := [(0, .inr (.inr (.ref 45))), (1, .inl (x)), (2, .inl (2)), (3, .inl (i))]) (st' := [.inl (x), .inr (.inr (.ref 45)), .inl (i)]) (σ' := σ14) rfl ?_
        refine wk_callp tt_140 rfl rfl rfl rfl rfl tt_149 rfl (by decide) (w_nLengthOf z σ14 x rx) ?_
        rw [hl14]
        refine wk_if2 tt_140 (tgt := 62) rfl rfl ⟨by omega, by omega⟩ ⟨by omega, by omega⟩ (fun h28 => ?_) (fun h28 => ?_)
        · simp only [sg_c, sg_nc] at h28
          exfalso; omega
        · refine wk_b tt_140 2 (pc' := 40) (ls' := [(0, .inr (.inr (.ref 45))), (1, .inl (x)), (2, .inl (2)), (3, .inl (i))]) (st' := [.inl (200), .inl (i)]) (σ' := σ14) rfl ?_
          refine wk_if2 tt_140 (tgt := 62) rfl rfl ⟨by omega, by omega⟩ (by decide) (fun h29 => ?_) (fun h29 => ?_)
          · simp only [sg_c, sg_nc] at h29
            exfalso; omega
          · refine wk_b tt_140 4 (pc' := 47) (ls' := [(0, .inr (.inr (.ref 45))), (1, .inl (x)), (2, .inl (2)), (3, .inl (i))]) (st' := [.inl (i), .inl (x), .inr (.inr (.ref 45)), .inr (.inr (.ref 45))]) (σ' := σ14) rfl ?_
            obtain ⟨p1, p2, p3⟩ := cv_item hB14 hv14 gw
            rw [← ei] at p1 p2 p3
            refine wk_callp tt_140 rfl rfl rfl rfl rfl tt_145 rfl (by decide) (w_nItemOf z σ14 x i rx ⟨by omega, by omega⟩ p1) ?_
            generalize v_nItemOf σ14 x i = q34 at p2 p3
            refine wk_b tt_140 3 (pc' := 53) (ls' := [(0, .inr (.inr (.ref 45))), (1, .inl (x)), (2, .inl (2)), (3, .inl (i))]) (st' := [.inl (((2 : Int) - 1)), .inl (q34), .inr (.inr (.ref 45))]) (σ' := σ14) rfl ?_
            rw [show ((2 : Int) - 1) = 1 from rfl]
            refine wk_call tt_140 rfl rfl rfl rfl rfl tt_140 rfl (by decide) (dIt1 z σ14 w q34 p2 hB14 p3 ⟨by omega, by omega⟩) (fun w36 σ37 hq38 => ?_)
            obtain ⟨rfl, f37, t37⟩ := hq38
            refine wk_b tt_140 2 (pc' := 27) (ls' := [(3, .inl ((i + 1))), (0, .inr (.inr (.ref 45))), (1, .inl (x)), (2, .inl (2))]) (st' := []) (σ' := σ37) rfl ?_
            refine wk_ls [(0, .inr (.inr (.ref 45))), (1, .inl (x)), (2, .inl (2)), (3, .inl ((i + 1)))] rfl ⟨rfl, rfl, rfl, rfl, trivial⟩ ?_
            refine ih (dn ++ [w]) (i + 1) σ37 ew (by rw [List.length_append, List.length_cons, List.length_nil]; omega) (sg_F_t F14 f37) ?_
            have := aIm_t T14 t37
            rw [List.append_assoc, ← imL_s] at this
            exact this
    refine wk_ls [(0, .inr (.inr (.ref 45))), (1, .inl (x)), (2, .inl (2)), (3, .inl (0))] rfl ⟨rfl, rfl, rfl, rfl, trivial⟩ ?_
    exact lp (itF v) [] 0 σ9 rfl rfl f9 t9
set_option maxRecDepth 8000 in
theorem dIt3 (z : Value) (σ : sg_S) (v : vaF) (x : Int) (rx : sg_R x) (hB : sg_g σ 45 20 ≤ 9003) (hv : cvF σ 3 v x) (h2 : 0 ≤ sg_g σ 49 2 ∧ sg_g σ 49 2 + (imF 3 v).length ≤ 3001) : wx z 5 140 0 [(0, .inr (.inr (.ref 45))), (1, .inl (x)), (2, .inl (3))] [] σ (fun w σ' => w = none ∧ sg_F [3049, 52] σ σ' ∧ aIm 49 52 σ σ' (imF 3 v)) := by
  have l1 := imF_1 3 v
  refine wk_b tt_140 1 (pc' := 1) (ls' := [(0, .inr (.inr (.ref 45))), (1, .inl (x)), (2, .inl (3))]) (st' := [.inl (3)]) (σ' := σ) rfl ?_
  refine wk_if tt_140 (tgt := 13) rfl rfl (by decide) (fun h1 => ?_) (fun h1 => ?_)
  rotate_left
  · simp only [sg_c, sg_nc] at h1
    exfalso; omega
  · have hl := cv_len hB hv
    have h200 := hv.2.1
    have eim : imF 3 v = [((itF v).length : Int)] ++ imL (imF 2) (itF v) := by simp only [imF, List.cons_append, List.nil_append]
    have l8 : (imL (imF 2) (itF v)).length + 1 = (imF 3 v).length := by rw [eim, List.length_append]; simp only [List.length_cons, List.length_nil]; omega
    refine wk_b tt_140 4 (pc' := 19) (ls' := [(0, .inr (.inr (.ref 45))), (1, .inl (x)), (2, .inl (3))]) (st' := [.inl (x), .inr (.inr (.ref 45)), .inr (.inr (.ref 49))]) (σ' := σ) rfl ?_
    refine wk_callp tt_140 rfl rfl rfl rfl rfl tt_149 rfl (by decide) (w_nLengthOf z σ x rx) ?_
    rw [hl]
    refine wk_call tt_140 rfl rfl rfl rfl rfl tt_91 rfl (by decide) (i49_add z σ ((itF v).length : Int) ⟨by omega, by omega⟩ ⟨by omega, by omega⟩) (fun w8 σ9 hq10 => ?_)
    obtain ⟨rfl, f9, t9⟩ := hq10
    refine wk_b tt_140 2 (pc' := 27) (ls' := [(3, .inl (0)), (0, .inr (.inr (.ref 45))), (1, .inl (x)), (2, .inl (3))]) (st' := []) (σ' := σ9) rfl ?_
    have lp : ∀ (r dn : List vaF) (i : Int) (σ14 : sg_S), dn ++ r = itF v → i = dn.length → sg_F [3049, 52] σ σ14 → aIm 49 52 σ σ14 ([((itF v).length : Int)] ++ imL (imF 2) dn) → wx z 5 140 27 [(0, .inr (.inr (.ref 45))), (1, .inl (x)), (2, .inl (3)), (3, .inl (i))] [] σ14 (fun w σ' => w = none ∧ sg_F [3049, 52] σ σ' ∧ aIm 49 52 σ σ' (imF 3 v)) := fun r => by
      induction r with
      | nil =>
        intro dn i σ14 ed ei F14 T14
        rw [List.append_nil] at ed
        rw [ed] at T14 ei
        have hB14 : sg_g σ14 45 20 ≤ 9003 := by rw [sg_F_g F14 (by rfl)]; exact hB
        have hl14 := cv_len hB14 (cvF_F hv F14 rfl)
        refine wk_b tt_140 3 (pc' := 30) (ls' := [(0, .inr (.inr (.ref 45))), (1, .inl (x)), (2, .inl (3)), (3, .inl (i))]) (st' := [.inl (x), .inr (.inr (.ref 45)), .inl (i)]) (σ' := σ14) rfl ?_
        refine wk_callp tt_140 rfl rfl rfl rfl rfl tt_149 rfl (by decide) (w_nLengthOf z σ14 x rx) ?_
        rw [hl14]
        refine wk_if2 tt_140 (tgt := 62) rfl rfl ⟨by omega, by omega⟩ ⟨by omega, by omega⟩ (fun h28 => ?_) (fun h28 => ?_)
        · refine wk_rV tt_140 rfl rfl ⟨rfl, F14, ?_⟩
          rw [eim]
          exact T14
        · simp only [sg_c, sg_nc] at h28
          exfalso; omega
      | cons w r ih =>
        intro dn i σ14 ed ei F14 T14
        have hB14 : sg_g σ14 45 20 ≤ 9003 := by rw [sg_F_g F14 (by rfl)]; exact hB
        have hv14 := cvF_F hv F14 rfl
        have hl14 := cv_len hB14 hv14
        have ew : (dn ++ [w]) ++ r = itF v := by rw [List.append_assoc]; exact ed
        have lb : dn.length + 1 + r.length = (itF v).length := by rw [← ed, List.length_append, List.length_cons]; omega
        have gw : (itF v)[dn.length]? = some w := by rw [← ed, List.getElem?_append_right (Nat.le_refl _), Nat.sub_self]; rfl
        have ebl : (imL (imF 2) (itF v)).length = (imL (imF 2) dn).length + (imF 2 w).length + (imL (imF 2) r).length := by rw [← ed, imL_a, List.length_append]; simp only [imL, List.length_append]; omega
        have l14 := T14.1
        simp only [List.length_append, List.length_cons, List.length_nil] at l14
        refine wk_b tt_140 3 (pc' := 30) (ls' := [(0, .inr (.inr (.ref 45))), (1, .inl (x)), (2, .inl (3)), (3, .inl (i))]) (st' := [.inl (x), .inr (.inr (.ref 45)), .inl (i)]) (σ' := σ14) rfl ?_
        refine wk_callp tt_140 rfl rfl rfl rfl rfl tt_149 rfl (by decide) (w_nLengthOf z σ14 x rx) ?_
        rw [hl14]
        refine wk_if2 tt_140 (tgt := 62) rfl rfl ⟨by omega, by omega⟩ ⟨by omega, by omega⟩ (fun h28 => ?_) (fun h28 => ?_)
        · simp only [sg_c, sg_nc] at h28
          exfalso; omega
        · refine wk_b tt_140 2 (pc' := 40) (ls' := [(0, .inr (.inr (.ref 45))), (1, .inl (x)), (2, .inl (3)), (3, .inl (i))]) (st' := [.inl (200), .inl (i)]) (σ' := σ14) rfl ?_
          refine wk_if2 tt_140 (tgt := 62) rfl rfl ⟨by omega, by omega⟩ (by decide) (fun h29 => ?_) (fun h29 => ?_)
          · simp only [sg_c, sg_nc] at h29
            exfalso; omega
          · refine wk_b tt_140 4 (pc' := 47) (ls' := [(0, .inr (.inr (.ref 45))), (1, .inl (x)), (2, .inl (3)), (3, .inl (i))]) (st' := [.inl (i), .inl (x), .inr (.inr (.ref 45)), .inr (.inr (.ref 45))]) (σ' := σ14) rfl ?_
            obtain ⟨p1, p2, p3⟩ := cv_item hB14 hv14 gw
            rw [← ei] at p1 p2 p3
            refine wk_callp tt_140 rfl rfl rfl rfl rfl tt_145 rfl (by decide) (w_nItemOf z σ14 x i rx ⟨by omega, by omega⟩ p1) ?_
            generalize v_nItemOf σ14 x i = q34 at p2 p3
            refine wk_b tt_140 3 (pc' := 53) (ls' := [(0, .inr (.inr (.ref 45))), (1, .inl (x)), (2, .inl (3)), (3, .inl (i))]) (st' := [.inl (((3 : Int) - 1)), .inl (q34), .inr (.inr (.ref 45))]) (σ' := σ14) rfl ?_
            rw [show ((3 : Int) - 1) = 2 from rfl]
            refine wk_call tt_140 rfl rfl rfl rfl rfl tt_140 rfl (by decide) (dIt2 z σ14 w q34 p2 hB14 p3 ⟨by omega, by omega⟩) (fun w36 σ37 hq38 => ?_)
            obtain ⟨rfl, f37, t37⟩ := hq38
            refine wk_b tt_140 2 (pc' := 27) (ls' := [(3, .inl ((i + 1))), (0, .inr (.inr (.ref 45))), (1, .inl (x)), (2, .inl (3))]) (st' := []) (σ' := σ37) rfl ?_
            refine wk_ls [(0, .inr (.inr (.ref 45))), (1, .inl (x)), (2, .inl (3)), (3, .inl ((i + 1)))] rfl ⟨rfl, rfl, rfl, rfl, trivial⟩ ?_
            refine ih (dn ++ [w]) (i + 1) σ37 ew (by rw [List.length_append, List.length_cons, List.length_nil]; omega) (sg_F_t F14 f37) ?_
            have := aIm_t T14 t37
            rw [List.append_assoc, ← imL_s] at this
            exact this
    refine wk_ls [(0, .inr (.inr (.ref 45))), (1, .inl (x)), (2, .inl (3)), (3, .inl (0))] rfl ⟨rfl, rfl, rfl, rfl, trivial⟩ ?_
    exact lp (itF v) [] 0 σ9 rfl rfl f9 t9
set_option maxRecDepth 8000 in
theorem dNs0 (z : Value) (σ : sg_S) (v : vaF) (x : Int) (rx : sg_R x) (hB : sg_g σ 45 20 ≤ 9003) (hv : cvF σ 0 v x) (h2 : sg_g σ 49 2 = 0) (hl : (imF 0 v).length ≤ 3001) : wx z 3 139 0 [(0, .inr (.inr (.ref 45))), (1, .inl (x)), (2, .inl (0))] [] σ (fun w σ' => w = none ∧ sg_F [3049, 52] σ σ' ∧ aIm 49 52 σ σ' (imF 0 v)) := by
  refine wk_b tt_139 3 (pc' := 3) (ls' := [(0, .inr (.inr (.ref 45))), (1, .inl (x)), (2, .inl (0))]) (st' := [.inl (0), .inl (x), .inr (.inr (.ref 45))]) (σ' := σ) rfl ?_
  refine wk_call tt_139 rfl rfl rfl rfl rfl tt_140 rfl (by decide) (dIt0 z σ v x rx hB hv (by rw [h2]; omega)) (fun w1 σ2 hq3 => ?_)
  obtain ⟨rfl, f2, t2⟩ := hq3
  exact wk_rV tt_139 rfl rfl ⟨rfl, f2, t2⟩
set_option maxRecDepth 8000 in
theorem dNs1 (z : Value) (σ : sg_S) (v : vaF) (x : Int) (rx : sg_R x) (hB : sg_g σ 45 20 ≤ 9003) (hv : cvF σ 1 v x) (h2 : sg_g σ 49 2 = 0) (hl : (imF 1 v).length ≤ 3001) : wx z 4 139 0 [(0, .inr (.inr (.ref 45))), (1, .inl (x)), (2, .inl (1))] [] σ (fun w σ' => w = none ∧ sg_F [3049, 52] σ σ' ∧ aIm 49 52 σ σ' (imF 1 v)) := by
  refine wk_b tt_139 3 (pc' := 3) (ls' := [(0, .inr (.inr (.ref 45))), (1, .inl (x)), (2, .inl (1))]) (st' := [.inl (1), .inl (x), .inr (.inr (.ref 45))]) (σ' := σ) rfl ?_
  refine wk_call tt_139 rfl rfl rfl rfl rfl tt_140 rfl (by decide) (dIt1 z σ v x rx hB hv (by rw [h2]; omega)) (fun w1 σ2 hq3 => ?_)
  obtain ⟨rfl, f2, t2⟩ := hq3
  exact wk_rV tt_139 rfl rfl ⟨rfl, f2, t2⟩
set_option maxRecDepth 8000 in
theorem dNs2 (z : Value) (σ : sg_S) (v : vaF) (x : Int) (rx : sg_R x) (hB : sg_g σ 45 20 ≤ 9003) (hv : cvF σ 2 v x) (h2 : sg_g σ 49 2 = 0) (hl : (imF 2 v).length ≤ 3001) : wx z 5 139 0 [(0, .inr (.inr (.ref 45))), (1, .inl (x)), (2, .inl (2))] [] σ (fun w σ' => w = none ∧ sg_F [3049, 52] σ σ' ∧ aIm 49 52 σ σ' (imF 2 v)) := by
  refine wk_b tt_139 3 (pc' := 3) (ls' := [(0, .inr (.inr (.ref 45))), (1, .inl (x)), (2, .inl (2))]) (st' := [.inl (2), .inl (x), .inr (.inr (.ref 45))]) (σ' := σ) rfl ?_
  refine wk_call tt_139 rfl rfl rfl rfl rfl tt_140 rfl (by decide) (dIt2 z σ v x rx hB hv (by rw [h2]; omega)) (fun w1 σ2 hq3 => ?_)
  obtain ⟨rfl, f2, t2⟩ := hq3
  exact wk_rV tt_139 rfl rfl ⟨rfl, f2, t2⟩
set_option maxRecDepth 8000 in
theorem dNs3 (z : Value) (σ : sg_S) (v : vaF) (x : Int) (rx : sg_R x) (hB : sg_g σ 45 20 ≤ 9003) (hv : cvF σ 3 v x) (h2 : sg_g σ 49 2 = 0) (hl : (imF 3 v).length ≤ 3001) : wx z 6 139 0 [(0, .inr (.inr (.ref 45))), (1, .inl (x)), (2, .inl (3))] [] σ (fun w σ' => w = none ∧ sg_F [3049, 52] σ σ' ∧ aIm 49 52 σ σ' (imF 3 v)) := by
  refine wk_b tt_139 3 (pc' := 3) (ls' := [(0, .inr (.inr (.ref 45))), (1, .inl (x)), (2, .inl (3))]) (st' := [.inl (3), .inl (x), .inr (.inr (.ref 45))]) (σ' := σ) rfl ?_
  refine wk_call tt_139 rfl rfl rfl rfl rfl tt_140 rfl (by decide) (dIt3 z σ v x rx hB hv (by rw [h2]; omega)) (fun w1 σ2 hq3 => ?_)
  obtain ⟨rfl, f2, t2⟩ := hq3
  exact wk_rV tt_139 rfl rfl ⟨rfl, f2, t2⟩
