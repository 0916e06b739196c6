/-! Conditions of the reference's methods, by program (29). -/
-- NestedVectorsModel.isReserved
def v_isReserved  (a0 : Int) : Int := (if ¬ (v_actOf (a0)) = 0 then (1 : Int) else (if a0 = 6606 then (1 : Int) else (if a0 = 19420 then (1 : Int) else (if a0 = 374 then (1 : Int) else (if a0 = 366 then (1 : Int) else (if a0 = 1293014 then (1 : Int) else (if ¬ a0 = 339965 then (0 : Int) else (1 : Int))))))))
theorem vz_isReserved  {a0 : Int} : v_isReserved a0 = 0 ∨ v_isReserved a0 = 1 := by
  unfold v_isReserved
  by_cases h : ¬ (v_actOf (a0)) = 0
  · rw [if_pos h]
    exact Or.inr rfl
  · rw [if_neg h]
    by_cases h : a0 = 6606
    · rw [if_pos h]
      exact Or.inr rfl
    · rw [if_neg h]
      by_cases h : a0 = 19420
      · rw [if_pos h]
        exact Or.inr rfl
      · rw [if_neg h]
        by_cases h : a0 = 374
        · rw [if_pos h]
          exact Or.inr rfl
        · rw [if_neg h]
          by_cases h : a0 = 366
          · rw [if_pos h]
            exact Or.inr rfl
          · rw [if_neg h]
            by_cases h : a0 = 1293014
            · rw [if_pos h]
              exact Or.inr rfl
            · rw [if_neg h]
              by_cases h : ¬ a0 = 339965
              · rw [if_pos h]
                exact Or.inl rfl
              · rw [if_neg h]
                exact Or.inr rfl
set_option maxHeartbeats 4000000 in
set_option maxRecDepth 8000 in
theorem w_isReserved (z : Value) (σ : sg_S) (a0 : Int) (ra0 : sg_RL a0) : wx z 4 266 0 [(0, .inr (.inl (a0)))] [] σ (fun v σ' => v = some (.inl (v_isReserved a0)) ∧ σ' = σ) := by
  refine wk_b tt_266 1 (pc' := 1) (ls' := [(0, .inr (.inl (a0)))]) (st' := [.inr (.inl (a0))]) (σ' := σ) rfl ?_
  refine wk_callp tt_266 rfl rfl rfl rfl rfl tt_210 rfl (by decide) (w_actOf z σ (a0) ra0 ) ?_
  have r1 := vr_actOf  (a0) ra0 
  refine wk_if tt_266 (tgt := 73) rfl rfl r1 (fun (h2 : ¬ (v_actOf (a0)) = 0) => ?_) (fun (h2 : (v_actOf (a0)) = 0) => ?_)
  ·
    refine wk_b tt_266 2 (pc' := 78) (ls' := [(0, .inr (.inl (a0)))]) (st' := [.inl (1)]) (σ' := σ) rfl ?_
    exact wk_rZ tt_266 rfl rfl (by decide) ⟨by rw [v_isReserved, if_pos h2], rfl⟩
  ·
    refine wk_b tt_266 2 (pc' := 11) (ls' := [(0, .inr (.inl (a0)))]) (st' := [.inr (.inl (6579558)), .inr (.inl (a0))]) (σ' := σ) rfl ?_
    refine wk_callp tt_266 rfl rfl rfl rfl rfl tt_332 rfl (by decide) (w_told_6579558 z σ) ?_
    refine wk_lcif tt_266 (tgt := 73) rfl rfl rfl ra0 (by decide) (fun (h3 : a0 = 6606) => ?_) (fun (h3 : ¬ a0 = 6606) => ?_)
    ·
      refine wk_b tt_266 2 (pc' := 78) (ls' := [(0, .inr (.inl (a0)))]) (st' := [.inl (1)]) (σ' := σ) rfl ?_
      exact wk_rZ tt_266 rfl rfl (by decide) ⟨by rw [v_isReserved, if_neg (show ¬ (¬ (v_actOf (a0)) = 0) by omega), if_pos h3], rfl⟩
    ·
      refine wk_b tt_266 2 (pc' := 22) (ls' := [(0, .inr (.inl (a0)))]) (st' := [.inr (.inl (7103860)), .inr (.inl (a0))]) (σ' := σ) rfl ?_
      refine wk_callp tt_266 rfl rfl rfl rfl rfl tt_332 rfl (by decide) (w_told_7103860 z σ) ?_
      refine wk_lcif tt_266 (tgt := 73) rfl rfl rfl ra0 (by decide) (fun (h4 : a0 = 19420) => ?_) (fun (h4 : ¬ a0 = 19420) => ?_)
      ·
        refine wk_b tt_266 2 (pc' := 78) (ls' := [(0, .inr (.inl (a0)))]) (st' := [.inl (1)]) (σ' := σ) rfl ?_
        exact wk_rZ tt_266 rfl rfl (by decide) ⟨by rw [v_isReserved, if_neg (show ¬ (¬ (v_actOf (a0)) = 0) by omega), if_neg (show ¬ (a0 = 6606) by omega), if_pos h4], rfl⟩
      ·
        refine wk_b tt_266 2 (pc' := 33) (ls' := [(0, .inr (.inl (a0)))]) (st' := [.inr (.inl (26990)), .inr (.inl (a0))]) (σ' := σ) rfl ?_
        refine wk_callp tt_266 rfl rfl rfl rfl rfl tt_332 rfl (by decide) (w_told_26990 z σ) ?_
        refine wk_lcif tt_266 (tgt := 73) rfl rfl rfl ra0 (by decide) (fun (h5 : a0 = 374) => ?_) (fun (h5 : ¬ a0 = 374) => ?_)
        ·
          refine wk_b tt_266 2 (pc' := 78) (ls' := [(0, .inr (.inl (a0)))]) (st' := [.inl (1)]) (σ' := σ) rfl ?_
          exact wk_rZ tt_266 rfl rfl (by decide) ⟨by rw [v_isReserved, if_neg (show ¬ (¬ (v_actOf (a0)) = 0) by omega), if_neg (show ¬ (a0 = 6606) by omega), if_neg (show ¬ (a0 = 19420) by omega), if_pos h5], rfl⟩
        ·
          refine wk_b tt_266 2 (pc' := 44) (ls' := [(0, .inr (.inl (a0)))]) (st' := [.inr (.inl (26982)), .inr (.inl (a0))]) (σ' := σ) rfl ?_
          refine wk_callp tt_266 rfl rfl rfl rfl rfl tt_332 rfl (by decide) (w_told_26982 z σ) ?_
          refine wk_lcif tt_266 (tgt := 73) rfl rfl rfl ra0 (by decide) (fun (h6 : a0 = 366) => ?_) (fun (h6 : ¬ a0 = 366) => ?_)
          ·
            refine wk_b tt_266 2 (pc' := 78) (ls' := [(0, .inr (.inl (a0)))]) (st' := [.inl (1)]) (σ' := σ) rfl ?_
            exact wk_rZ tt_266 rfl rfl (by decide) ⟨by rw [v_isReserved, if_neg (show ¬ (¬ (v_actOf (a0)) = 0) by omega), if_neg (show ¬ (a0 = 6606) by omega), if_neg (show ¬ (a0 = 19420) by omega), if_neg (show ¬ (a0 = 374) by omega), if_pos h6], rfl⟩
          ·
            refine wk_b tt_266 2 (pc' := 55) (ls' := [(0, .inr (.inl (a0)))]) (st' := [.inr (.inl (1952998766)), .inr (.inl (a0))]) (σ' := σ) rfl ?_
            refine wk_callp tt_266 rfl rfl rfl rfl rfl tt_332 rfl (by decide) (w_told_1952998766 z σ) ?_
            refine wk_lcif tt_266 (tgt := 73) rfl rfl rfl ra0 (by decide) (fun (h7 : a0 = 1293014) => ?_) (fun (h7 : ¬ a0 = 1293014) => ?_)
            ·
              refine wk_b tt_266 2 (pc' := 78) (ls' := [(0, .inr (.inl (a0)))]) (st' := [.inl (1)]) (σ' := σ) rfl ?_
              exact wk_rZ tt_266 rfl rfl (by decide) ⟨by rw [v_isReserved, if_neg (show ¬ (¬ (v_actOf (a0)) = 0) by omega), if_neg (show ¬ (a0 = 6606) by omega), if_neg (show ¬ (a0 = 19420) by omega), if_neg (show ¬ (a0 = 374) by omega), if_neg (show ¬ (a0 = 366) by omega), if_pos h7], rfl⟩
            ·
              refine wk_b tt_266 2 (pc' := 66) (ls' := [(0, .inr (.inl (a0)))]) (st' := [.inr (.inl (1701606245)), .inr (.inl (a0))]) (σ' := σ) rfl ?_
              refine wk_callp tt_266 rfl rfl rfl rfl rfl tt_332 rfl (by decide) (w_told_1701606245 z σ) ?_
              refine wk_lcif tt_266 (tgt := 77) rfl rfl rfl ra0 (by decide) (fun (h8 : ¬ a0 = 339965) => ?_) (fun (h8 : a0 = 339965) => ?_)
              ·
                refine wk_b tt_266 1 (pc' := 78) (ls' := [(0, .inr (.inl (a0)))]) (st' := [.inl (0)]) (σ' := σ) rfl ?_
                exact wk_rZ tt_266 rfl rfl (by decide) ⟨by rw [v_isReserved, if_neg (show ¬ (¬ (v_actOf (a0)) = 0) by omega), if_neg (show ¬ (a0 = 6606) by omega), if_neg (show ¬ (a0 = 19420) by omega), if_neg (show ¬ (a0 = 374) by omega), if_neg (show ¬ (a0 = 366) by omega), if_neg (show ¬ (a0 = 1293014) by omega), if_pos h8], rfl⟩
              ·
                refine wk_b tt_266 2 (pc' := 78) (ls' := [(0, .inr (.inl (a0)))]) (st' := [.inl (1)]) (σ' := σ) rfl ?_
                exact wk_rZ tt_266 rfl rfl (by decide) ⟨by rw [v_isReserved, if_neg (show ¬ (¬ (v_actOf (a0)) = 0) by omega), if_neg (show ¬ (a0 = 6606) by omega), if_neg (show ¬ (a0 = 19420) by omega), if_neg (show ¬ (a0 = 374) by omega), if_neg (show ¬ (a0 = 366) by omega), if_neg (show ¬ (a0 = 1293014) by omega), if_neg (show ¬ (¬ a0 = 339965) by omega)], rfl⟩
-- NestedVectorsModel.isName
def v_isName (σ : sg_S) : Int := (if ¬ (sg_g σ 90 ((sg_g σ 88 7))) = 2 then (0 : Int) else (if ¬ (v_isReserved ((sg_gl σ 92 ((sg_g σ 88 7))))) = 0 then (0 : Int) else (1 : Int)))
def p_isName (σ : sg_S) : Prop := (0 ≤ (sg_g σ 88 7) ∧ (sg_g σ 88 7) < 1210) ∧ ((¬ (sg_g σ 90 ((sg_g σ 88 7))) = 2 → True) ∧ ((sg_g σ 90 ((sg_g σ 88 7))) = 2 → ((¬ (v_isReserved ((sg_gl σ 92 ((sg_g σ 88 7))))) = 0 → True) ∧ ((v_isReserved ((sg_gl σ 92 ((sg_g σ 88 7))))) = 0 → True))))
theorem vz_isName {σ : sg_S} : v_isName σ  = 0 ∨ v_isName σ  = 1 := by
  unfold v_isName
  by_cases h : ¬ (sg_g σ 90 ((sg_g σ 88 7))) = 2
  · rw [if_pos h]
    exact Or.inl rfl
  · rw [if_neg h]
    by_cases h : ¬ (v_isReserved ((sg_gl σ 92 ((sg_g σ 88 7))))) = 0
    · rw [if_pos h]
      exact Or.inl rfl
    · rw [if_neg h]
      exact Or.inr rfl
set_option maxHeartbeats 4000000 in
set_option maxRecDepth 8000 in
theorem w_isName (z : Value) (σ : sg_S)  (w : p_isName σ ) : wx z 5 264 0 [(0, .inr (.inr (.ref 88)))] [] σ (fun v σ' => v = some (.inl (v_isName σ )) ∧ σ' = σ) := by
  unfold p_isName at w
  refine wk_b tt_264 4 (pc' := 8) (ls' := [(0, .inr (.inr (.ref 88)))]) (st' := [.inl ((sg_g σ 88 7)), .inr (.inr (.ref 90))]) (σ' := σ) rfl ?_
  obtain ⟨c1, w⟩ := w
  refine wk_ia tt_264 rfl rfl c1.1 c1.2 (sg_Rg _ _ _) ?_
  refine wk_b tt_264 1 (pc' := 10) (ls' := [(0, .inr (.inr (.ref 88)))]) (st' := [.inl (2), .inl ((sg_g σ 90 ((sg_g σ 88 7))))]) (σ' := σ) rfl ?_
  refine wk_if2 tt_264 (tgt := 32) rfl rfl (sg_Rg _ _ _) (by decide) (fun (h2 : ¬ (sg_g σ 90 ((sg_g σ 88 7))) = 2) => ?_) (fun (h2 : (sg_g σ 90 ((sg_g σ 88 7))) = 2) => ?_)
  ·
    have w := w.1 h2
    refine wk_b tt_264 1 (pc' := 33) (ls' := [(0, .inr (.inr (.ref 88)))]) (st' := [.inl (0)]) (σ' := σ) rfl ?_
    exact wk_rZ tt_264 rfl rfl (by decide) ⟨by rw [v_isName, if_pos h2], rfl⟩
  ·
    have w := w.2 h2
    refine wk_b tt_264 4 (pc' := 21) (ls' := [(0, .inr (.inr (.ref 88)))]) (st' := [.inl ((sg_g σ 88 7)), .inr (.inr (.ref 92))]) (σ' := σ) rfl ?_
    refine wk_la tt_264 rfl rfl c1.1 c1.2 (sg_Rg _ _ _) ?_
    refine wk_callp tt_264 rfl rfl rfl rfl rfl tt_266 rfl (by decide) (w_isReserved z σ ((sg_gl σ 92 ((sg_g σ 88 7)))) (sg_Rgl _ _ _) ) ?_
    refine wk_if tt_264 (tgt := 32) rfl rfl (sg_Rz (vz_isReserved ..)) (fun (h3 : ¬ (v_isReserved ((sg_gl σ 92 ((sg_g σ 88 7))))) = 0) => ?_) (fun (h3 : (v_isReserved ((sg_gl σ 92 ((sg_g σ 88 7))))) = 0) => ?_)
    ·
      have w := w.1 h3
      refine wk_b tt_264 1 (pc' := 33) (ls' := [(0, .inr (.inr (.ref 88)))]) (st' := [.inl (0)]) (σ' := σ) rfl ?_
      exact wk_rZ tt_264 rfl rfl (by decide) ⟨by rw [v_isName, if_neg (show ¬ (¬ (sg_g σ 90 ((sg_g σ 88 7))) = 2) by omega), if_pos h3], rfl⟩
    ·
      have w := w.2 h3
      refine wk_b tt_264 2 (pc' := 33) (ls' := [(0, .inr (.inr (.ref 88)))]) (st' := [.inl (1)]) (σ' := σ) rfl ?_
      exact wk_rZ tt_264 rfl rfl (by decide) ⟨by rw [v_isName, if_neg (show ¬ (¬ (sg_g σ 90 ((sg_g σ 88 7))) = 2) by omega), if_neg (show ¬ (¬ (v_isReserved ((sg_gl σ 92 ((sg_g σ 88 7))))) = 0) by omega)], rfl⟩
theorem vF_isName {L : List Nat} {σ σ' : sg_S} (hF : sg_F L σ σ') (h0 : sg_cv L 88 7 = false) (h1 : sg_ca L 90 = true) (h2 : sg_ca L 92 = true) : v_isName σ'  = v_isName σ  := by
  unfold v_isName
  simp only [sg_F_g hF h0, sg_F_gl hF h0, sg_F_ga (k := _) hF h1, sg_F_gal (k := _) hF h1, sg_F_ga (k := _) hF h2, sg_F_gal (k := _) hF h2, vF_isWord hF h0 h1 h2, pF_isWord hF h0 h1 h2]
theorem pF_isName {L : List Nat} {σ σ' : sg_S} (hF : sg_F L σ σ') (h0 : sg_cv L 88 7 = false) (h1 : sg_ca L 90 = true) (h2 : sg_ca L 92 = true) : p_isName σ'  = p_isName σ  := by
  unfold p_isName
  simp only [sg_F_g hF h0, sg_F_gl hF h0, sg_F_ga (k := _) hF h1, sg_F_gal (k := _) hF h1, sg_F_ga (k := _) hF h2, sg_F_gal (k := _) hF h2, vF_isWord hF h0 h1 h2, pF_isWord hF h0 h1 h2]
-- NestedVectorsModel.isSignNow
def v_isSignNow (σ : sg_S) (a1 : Int) : Int := (if ¬ (sg_g σ 90 ((sg_g σ 88 7))) = 3 then (0 : Int) else (if ¬ (sg_gl σ 92 ((sg_g σ 88 7))) = a1 then (0 : Int) else (1 : Int)))
def p_isSignNow (σ : sg_S) (a1 : Int) : Prop := (0 ≤ (sg_g σ 88 7) ∧ (sg_g σ 88 7) < 1210) ∧ ((¬ (sg_g σ 90 ((sg_g σ 88 7))) = 3 → True) ∧ ((sg_g σ 90 ((sg_g σ 88 7))) = 3 → ((¬ (sg_gl σ 92 ((sg_g σ 88 7))) = a1 → True) ∧ ((sg_gl σ 92 ((sg_g σ 88 7))) = a1 → True))))
theorem vz_isSignNow {σ : sg_S} {a1 : Int} : v_isSignNow σ a1 = 0 ∨ v_isSignNow σ a1 = 1 := by
  unfold v_isSignNow
  by_cases h : ¬ (sg_g σ 90 ((sg_g σ 88 7))) = 3
  · rw [if_pos h]
    exact Or.inl rfl
  · rw [if_neg h]
    by_cases h : ¬ (sg_gl σ 92 ((sg_g σ 88 7))) = a1
    · rw [if_pos h]
      exact Or.inl rfl
    · rw [if_neg h]
      exact Or.inr rfl
set_option maxHeartbeats 4000000 in
set_option maxRecDepth 8000 in
theorem w_isSignNow (z : Value) (σ : sg_S) (a1 : Int) (ra1 : sg_R a1) (w : p_isSignNow σ a1) : wx z 0 268 0 [(0, .inr (.inr (.ref 88))), (1, .inl (a1))] [] σ (fun v σ' => v = some (.inl (v_isSignNow σ a1)) ∧ σ' = σ) := by
  unfold p_isSignNow at w
  refine wk_b tt_268 4 (pc' := 8) (ls' := [(0, .inr (.inr (.ref 88))), (1, .inl (a1))]) (st' := [.inl ((sg_g σ 88 7)), .inr (.inr (.ref 90))]) (σ' := σ) rfl ?_
  obtain ⟨c1, w⟩ := w
  refine wk_ia tt_268 rfl rfl c1.1 c1.2 (sg_Rg _ _ _) ?_
  refine wk_b tt_268 1 (pc' := 10) (ls' := [(0, .inr (.inr (.ref 88))), (1, .inl (a1))]) (st' := [.inl (3), .inl ((sg_g σ 90 ((sg_g σ 88 7))))]) (σ' := σ) rfl ?_
  refine wk_if2 tt_268 (tgt := 32) rfl rfl (sg_Rg _ _ _) (by decide) (fun (h2 : ¬ (sg_g σ 90 ((sg_g σ 88 7))) = 3) => ?_) (fun (h2 : (sg_g σ 90 ((sg_g σ 88 7))) = 3) => ?_)
  ·
    have w := w.1 h2
    refine wk_b tt_268 1 (pc' := 33) (ls' := [(0, .inr (.inr (.ref 88))), (1, .inl (a1))]) (st' := [.inl (0)]) (σ' := σ) rfl ?_
    exact wk_rZ tt_268 rfl rfl (by decide) ⟨by rw [v_isSignNow, if_pos h2], rfl⟩
  ·
    have w := w.2 h2
    refine wk_b tt_268 4 (pc' := 21) (ls' := [(0, .inr (.inr (.ref 88))), (1, .inl (a1))]) (st' := [.inl ((sg_g σ 88 7)), .inr (.inr (.ref 92))]) (σ' := σ) rfl ?_
    refine wk_la tt_268 rfl rfl c1.1 c1.2 (sg_Rg _ _ _) ?_
    refine wk_b tt_268 2 (pc' := 24) (ls' := [(0, .inr (.inr (.ref 88))), (1, .inl (a1))]) (st' := [.inr (.inl ((sg_n (a1)))), .inr (.inl ((sg_gl σ 92 ((sg_g σ 88 7)))))]) (σ' := σ) rfl ?_
    rw [show (sg_n (a1)) = a1 from by rw [sg_id ra1]]
    refine wk_lcif tt_268 (tgt := 32) rfl rfl rfl (sg_Rgl _ _ _) (sg_Rgl2 ra1) (fun (h3 : ¬ (sg_gl σ 92 ((sg_g σ 88 7))) = a1) => ?_) (fun (h3 : (sg_gl σ 92 ((sg_g σ 88 7))) = a1) => ?_)
    ·
      have w := w.1 h3
      refine wk_b tt_268 1 (pc' := 33) (ls' := [(0, .inr (.inr (.ref 88))), (1, .inl (a1))]) (st' := [.inl (0)]) (σ' := σ) rfl ?_
      exact wk_rZ tt_268 rfl rfl (by decide) ⟨by rw [v_isSignNow, if_neg (show ¬ (¬ (sg_g σ 90 ((sg_g σ 88 7))) = 3) by omega), if_pos h3], rfl⟩
    ·
      have w := w.2 h3
      refine wk_b tt_268 2 (pc' := 33) (ls' := [(0, .inr (.inr (.ref 88))), (1, .inl (a1))]) (st' := [.inl (1)]) (σ' := σ) rfl ?_
      exact wk_rZ tt_268 rfl rfl (by decide) ⟨by rw [v_isSignNow, if_neg (show ¬ (¬ (sg_g σ 90 ((sg_g σ 88 7))) = 3) by omega), if_neg (show ¬ (¬ (sg_gl σ 92 ((sg_g σ 88 7))) = a1) by omega)], rfl⟩
theorem vF_isSignNow {L : List Nat} {σ σ' : sg_S} {a1 : Int} (hF : sg_F L σ σ') (h0 : sg_cv L 88 7 = false) (h1 : sg_ca L 90 = true) (h2 : sg_ca L 92 = true) : v_isSignNow σ' a1 = v_isSignNow σ a1 := by
  unfold v_isSignNow
  simp only [sg_F_g hF h0, sg_F_gl hF h0, sg_F_ga (k := _) hF h1, sg_F_gal (k := _) hF h1, sg_F_ga (k := _) hF h2, sg_F_gal (k := _) hF h2, vF_isWord hF h0 h1 h2, pF_isWord hF h0 h1 h2, vF_isName hF h0 h1 h2, pF_isName hF h0 h1 h2]
theorem pF_isSignNow {L : List Nat} {σ σ' : sg_S} {a1 : Int} (hF : sg_F L σ σ') (h0 : sg_cv L 88 7 = false) (h1 : sg_ca L 90 = true) (h2 : sg_ca L 92 = true) : p_isSignNow σ' a1 = p_isSignNow σ a1 := by
  unfold p_isSignNow
  simp only [sg_F_g hF h0, sg_F_gl hF h0, sg_F_ga (k := _) hF h1, sg_F_gal (k := _) hF h1, sg_F_ga (k := _) hF h2, sg_F_gal (k := _) hF h2, vF_isWord hF h0 h1 h2, pF_isWord hF h0 h1 h2, vF_isName hF h0 h1 h2, pF_isName hF h0 h1 h2]
-- NestedVectorsModel.readExpr
def V_readExpr (σ : sg_S) (Q : sg_S → Prop) : Prop := p_isWord σ (7103860) ∧ (((v_isWord σ (7103860)) = 0 → p_isWord σ (26982) ∧ (((v_isWord σ (26982)) = 0 → V_pile σ (1) (0) (fun σ6 => sg_F [110, 111, 32088] σ σ6 → Q σ6)) ∧ (¬ (v_isWord σ (26982)) = 0 → V_enter σ  (fun σ12 => sg_F [30088, 31088, 37088] σ σ12 → V_newNode σ12 (3) (fun q17 σ18 => sg_R q17 → sg_F [93, 94, 95, 96, 98, 9088, 30088, 31088] σ12 σ18 → V_want σ18 (1) (fun σ24 => sg_F [8088, 30088, 31088] σ18 σ24 → V_pile σ24 (11) (q17) (fun σ30 => sg_F [110, 111, 32088] σ24 σ30 → V_pile σ30 (12) (0) (fun σ36 => sg_F [110, 111, 32088] σ30 σ36 → V_pile σ36 (10) (q17) (fun σ42 => sg_F [110, 111, 32088] σ36 σ42 → V_pile σ42 (0) (0) (fun σ48 => sg_F [110, 111, 32088] σ42 σ48 → V_pile σ48 (14) (2) (fun σ54 => sg_F [110, 111, 32088] σ48 σ54 → V_pile σ54 (10) (q17) (fun σ60 => sg_F [110, 111, 32088] σ54 σ60 → V_pile σ60 (0) (0) (fun σ66 => sg_F [110, 111, 32088] σ60 σ66 → V_pile σ66 (14) (1) (fun σ72 => sg_F [110, 111, 32088] σ66 σ72 → V_pile σ72 (10) (q17) (fun σ78 => sg_F [110, 111, 32088] σ72 σ78 → V_pile σ78 (0) (0) (fun σ84 => sg_F [110, 111, 32088] σ78 σ84 → Q σ84)))))))))))))))) ∧ (¬ (v_isWord σ (7103860)) = 0 → V_enter σ  (fun σ90 => sg_F [30088, 31088, 37088] σ σ90 → V_newNode σ90 (2) (fun q95 σ96 => sg_R q95 → sg_F [93, 94, 95, 96, 98, 9088, 30088, 31088] σ90 σ96 → V_want σ96 (1) (fun σ102 => sg_F [8088, 30088, 31088] σ96 σ102 → (0 ≤ (sg_g σ102 88 7) ∧ (sg_g σ102 88 7) < 1210) ∧ (0 ≤ q95 ∧ q95 < 210) ∧ ∀ σ109, σ109 = (sg_wl σ102 95 (q95) ((sg_gl σ 92 ((sg_g σ102 88 7))))) → p_isName σ102  ∧ V_want σ109 ((v_isName σ102)) (fun σ114 => sg_F [8088, 30088, 31088] σ109 σ114 → p_isSignNow σ114 (61) ∧ V_want σ114 ((v_isSignNow σ114 (61))) (fun σ121 => sg_F [8088, 30088, 31088] σ114 σ121 → V_pile σ121 (11) (q95) (fun σ127 => sg_F [110, 111, 32088] σ121 σ127 → V_pile σ127 (12) (0) (fun σ133 => sg_F [110, 111, 32088] σ127 σ133 → V_pile σ133 (10) (q95) (fun σ139 => sg_F [110, 111, 32088] σ133 σ139 → V_pile σ139 (0) (0) (fun σ145 => sg_F [110, 111, 32088] σ139 σ145 → V_pile σ145 (14) (0) (fun σ151 => sg_F [110, 111, 32088] σ145 σ151 → V_pile σ151 (10) (q95) (fun σ157 => sg_F [110, 111, 32088] σ151 σ157 → V_pile σ157 (0) (0) (fun σ163 => sg_F [110, 111, 32088] σ157 σ163 → Q σ163))))))))))))))
set_option maxHeartbeats 4000000 in
set_option maxRecDepth 8000 in
theorem w_readExpr (z : Value) (σ : sg_S) (Q : sg_S → Prop)  (w : V_readExpr σ  Q) : wx z 6 314 0 [(0, .inr (.inr (.ref 88)))] [] σ (fun v σ' => v = none ∧ sg_F [93, 94, 95, 96, 98, 110, 111, 8088, 9088, 30088, 31088, 32088, 37088] σ σ' ∧ Q σ') := by
  unfold V_readExpr at w
  refine wk_b tt_314 2 (pc' := 4) (ls' := [(0, .inr (.inr (.ref 88)))]) (st' := [.inr (.inl (7103860)), .inr (.inr (.ref 88))]) (σ' := σ) rfl ?_
  obtain ⟨c1, w⟩ := w
  refine wk_callp tt_314 rfl rfl rfl rfl rfl tt_269 rfl (by decide) (w_isWord z σ (7103860) (by decide) c1) ?_
  refine wk_if tt_314 (tgt := 108) rfl rfl (sg_Rz (vz_isWord ..)) (fun (h2 : (v_isWord σ (7103860)) = 0) => ?_) (fun (h2 : ¬ (v_isWord σ (7103860)) = 0) => ?_)
  ·
    have w := w.1 h2
    refine wk_b tt_314 2 (pc' := 112) (ls' := [(0, .inr (.inr (.ref 88)))]) (st' := [.inr (.inl (26982)), .inr (.inr (.ref 88))]) (σ' := σ) rfl ?_
    obtain ⟨c3, w⟩ := w
    refine wk_callp tt_314 rfl rfl rfl rfl rfl tt_269 rfl (by decide) (w_isWord z σ (26982) (by decide) c3) ?_
    refine wk_if tt_314 (tgt := 203) rfl rfl (sg_Rz (vz_isWord ..)) (fun (h4 : (v_isWord σ (26982)) = 0) => ?_) (fun (h4 : ¬ (v_isWord σ (26982)) = 0) => ?_)
    ·
      have w := w.1 h4
      refine wk_b tt_314 3 (pc' := 206) (ls' := [(0, .inr (.inr (.ref 88)))]) (st' := [.inl (0), .inl (1), .inr (.inr (.ref 88))]) (σ' := σ) rfl ?_
      refine wk_call tt_314 rfl rfl rfl rfl rfl tt_305 rfl (by decide) (w_pile z σ (1) (0) _ (by decide) (by decide) w) (fun u10 σ6 hq8 => ?_)
      obtain ⟨rfl, hF7, w⟩ := hq8
      have w := w hF7
      exact wk_rV tt_314 rfl rfl ⟨rfl, (sg_F_t (sg_F_r [93, 94, 95, 96, 98, 110, 111, 8088, 9088, 30088, 31088, 32088, 37088] σ) (sg_F_m (L := [93, 94, 95, 96, 98, 110, 111, 8088, 9088, 30088, 31088, 32088, 37088]) hF7 rfl)), w⟩
    ·
      have w := w.2 h4
      refine wk_b tt_314 1 (pc' := 119) (ls' := [(0, .inr (.inr (.ref 88)))]) (st' := [.inr (.inr (.ref 88))]) (σ' := σ) rfl ?_
      refine wk_call tt_314 rfl rfl rfl rfl rfl tt_225 rfl (by decide) (w_enter z σ  _  w) (fun u16 σ12 hq14 => ?_)
      obtain ⟨rfl, hF13, w⟩ := hq14
      have w := w hF13
      refine wk_b tt_314 2 (pc' := 124) (ls' := [(0, .inr (.inr (.ref 88)))]) (st' := [.inl (3), .inr (.inr (.ref 88))]) (σ' := σ12) rfl ?_
      refine wk_call tt_314 rfl rfl rfl rfl rfl tt_294 rfl (by decide) (w_newNode z σ12 (3) _ (by decide) w) (fun u22 σ18 hq20 => ?_)
      obtain ⟨q17, rfl, r21, hF19, w⟩ := hq20
      have w := w r21 hF19
      refine wk_b tt_314 3 (pc' := 130) (ls' := [(1, .inl (q17)), (0, .inr (.inr (.ref 88)))]) (st' := [.inl (1), .inr (.inr (.ref 88))]) (σ' := σ18) rfl ?_
      refine wk_call tt_314 rfl rfl rfl rfl rfl tt_334 rfl (by decide) (w_want z σ18 (1) _ (by decide) w) (fun u28 σ24 hq26 => ?_)
      obtain ⟨rfl, hF25, w⟩ := hq26
      have w := w hF25
      refine wk_b tt_314 3 (pc' := 137) (ls' := [(1, .inl (q17)), (0, .inr (.inr (.ref 88)))]) (st' := [.inl (q17), .inl (11), .inr (.inr (.ref 88))]) (σ' := σ24) rfl ?_
      refine wk_call tt_314 rfl rfl rfl rfl rfl tt_305 rfl (by decide) (w_pile z σ24 (11) (q17) _ (by decide) r21 w) (fun u34 σ30 hq32 => ?_)
      obtain ⟨rfl, hF31, w⟩ := hq32
      have w := w hF31
      refine wk_b tt_314 3 (pc' := 144) (ls' := [(1, .inl (q17)), (0, .inr (.inr (.ref 88)))]) (st' := [.inl (0), .inl (12), .inr (.inr (.ref 88))]) (σ' := σ30) rfl ?_
      refine wk_call tt_314 rfl rfl rfl rfl rfl tt_305 rfl (by decide) (w_pile z σ30 (12) (0) _ (by decide) (by decide) w) (fun u40 σ36 hq38 => ?_)
      obtain ⟨rfl, hF37, w⟩ := hq38
      have w := w hF37
      refine wk_b tt_314 3 (pc' := 151) (ls' := [(1, .inl (q17)), (0, .inr (.inr (.ref 88)))]) (st' := [.inl (q17), .inl (10), .inr (.inr (.ref 88))]) (σ' := σ36) rfl ?_
      refine wk_call tt_314 rfl rfl rfl rfl rfl tt_305 rfl (by decide) (w_pile z σ36 (10) (q17) _ (by decide) r21 w) (fun u46 σ42 hq44 => ?_)
      obtain ⟨rfl, hF43, w⟩ := hq44
      have w := w hF43
      refine wk_b tt_314 3 (pc' := 157) (ls' := [(1, .inl (q17)), (0, .inr (.inr (.ref 88)))]) (st' := [.inl (0), .inl (0), .inr (.inr (.ref 88))]) (σ' := σ42) rfl ?_
      refine wk_call tt_314 rfl rfl rfl rfl rfl tt_305 rfl (by decide) (w_pile z σ42 (0) (0) _ (by decide) (by decide) w) (fun u52 σ48 hq50 => ?_)
      obtain ⟨rfl, hF49, w⟩ := hq50
      have w := w hF49
      refine wk_b tt_314 3 (pc' := 164) (ls' := [(1, .inl (q17)), (0, .inr (.inr (.ref 88)))]) (st' := [.inl (2), .inl (14), .inr (.inr (.ref 88))]) (σ' := σ48) rfl ?_
      refine wk_call tt_314 rfl rfl rfl rfl rfl tt_305 rfl (by decide) (w_pile z σ48 (14) (2) _ (by decide) (by decide) w) (fun u58 σ54 hq56 => ?_)
      obtain ⟨rfl, hF55, w⟩ := hq56
      have w := w hF55
      refine wk_b tt_314 3 (pc' := 171) (ls' := [(1, .inl (q17)), (0, .inr (.inr (.ref 88)))]) (st' := [.inl (q17), .inl (10), .inr (.inr (.ref 88))]) (σ' := σ54) rfl ?_
      refine wk_call tt_314 rfl rfl rfl rfl rfl tt_305 rfl (by decide) (w_pile z σ54 (10) (q17) _ (by decide) r21 w) (fun u64 σ60 hq62 => ?_)
      obtain ⟨rfl, hF61, w⟩ := hq62
      have w := w hF61
      refine wk_b tt_314 3 (pc' := 177) (ls' := [(1, .inl (q17)), (0, .inr (.inr (.ref 88)))]) (st' := [.inl (0), .inl (0), .inr (.inr (.ref 88))]) (σ' := σ60) rfl ?_
      refine wk_call tt_314 rfl rfl rfl rfl rfl tt_305 rfl (by decide) (w_pile z σ60 (0) (0) _ (by decide) (by decide) w) (fun u70 σ66 hq68 => ?_)
      obtain ⟨rfl, hF67, w⟩ := hq68
      have w := w hF67
      refine wk_b tt_314 3 (pc' := 184) (ls' := [(1, .inl (q17)), (0, .inr (.inr (.ref 88)))]) (st' := [.inl (1), .inl (14), .inr (.inr (.ref 88))]) (σ' := σ66) rfl ?_
      refine wk_call tt_314 rfl rfl rfl rfl rfl tt_305 rfl (by decide) (w_pile z σ66 (14) (1) _ (by decide) (by decide) w) (fun u76 σ72 hq74 => ?_)
      obtain ⟨rfl, hF73, w⟩ := hq74
      have w := w hF73
      refine wk_b tt_314 3 (pc' := 191) (ls' := [(1, .inl (q17)), (0, .inr (.inr (.ref 88)))]) (st' := [.inl (q17), .inl (10), .inr (.inr (.ref 88))]) (σ' := σ72) rfl ?_
      refine wk_call tt_314 rfl rfl rfl rfl rfl tt_305 rfl (by decide) (w_pile z σ72 (10) (q17) _ (by decide) r21 w) (fun u82 σ78 hq80 => ?_)
      obtain ⟨rfl, hF79, w⟩ := hq80
      have w := w hF79
      refine wk_b tt_314 3 (pc' := 197) (ls' := [(1, .inl (q17)), (0, .inr (.inr (.ref 88)))]) (st' := [.inl (0), .inl (0), .inr (.inr (.ref 88))]) (σ' := σ78) rfl ?_
      refine wk_call tt_314 rfl rfl rfl rfl rfl tt_305 rfl (by decide) (w_pile z σ78 (0) (0) _ (by decide) (by decide) w) (fun u88 σ84 hq86 => ?_)
      obtain ⟨rfl, hF85, w⟩ := hq86
      have w := w hF85
      refine wk_b tt_314 1 (pc' := 209) (ls' := [(1, .inl (q17)), (0, .inr (.inr (.ref 88)))]) (st' := []) (σ' := σ84) rfl ?_
      exact wk_rV tt_314 rfl rfl ⟨rfl, (sg_F_t (sg_F_t (sg_F_t (sg_F_t (sg_F_t (sg_F_t (sg_F_t (sg_F_t (sg_F_t (sg_F_t (sg_F_t (sg_F_t (sg_F_t (sg_F_r [93, 94, 95, 96, 98, 110, 111, 8088, 9088, 30088, 31088, 32088, 37088] σ) (sg_F_m (L := [93, 94, 95, 96, 98, 110, 111, 8088, 9088, 30088, 31088, 32088, 37088]) hF13 rfl)) (sg_F_m (L := [93, 94, 95, 96, 98, 110, 111, 8088, 9088, 30088, 31088, 32088, 37088]) hF19 rfl)) (sg_F_m (L := [93, 94, 95, 96, 98, 110, 111, 8088, 9088, 30088, 31088, 32088, 37088]) hF25 rfl)) (sg_F_m (L := [93, 94, 95, 96, 98, 110, 111, 8088, 9088, 30088, 31088, 32088, 37088]) hF31 rfl)) (sg_F_m (L := [93, 94, 95, 96, 98, 110, 111, 8088, 9088, 30088, 31088, 32088, 37088]) hF37 rfl)) (sg_F_m (L := [93, 94, 95, 96, 98, 110, 111, 8088, 9088, 30088, 31088, 32088, 37088]) hF43 rfl)) (sg_F_m (L := [93, 94, 95, 96, 98, 110, 111, 8088, 9088, 30088, 31088, 32088, 37088]) hF49 rfl)) (sg_F_m (L := [93, 94, 95, 96, 98, 110, 111, 8088, 9088, 30088, 31088, 32088, 37088]) hF55 rfl)) (sg_F_m (L := [93, 94, 95, 96, 98, 110, 111, 8088, 9088, 30088, 31088, 32088, 37088]) hF61 rfl)) (sg_F_m (L := [93, 94, 95, 96, 98, 110, 111, 8088, 9088, 30088, 31088, 32088, 37088]) hF67 rfl)) (sg_F_m (L := [93, 94, 95, 96, 98, 110, 111, 8088, 9088, 30088, 31088, 32088, 37088]) hF73 rfl)) (sg_F_m (L := [93, 94, 95, 96, 98, 110, 111, 8088, 9088, 30088, 31088, 32088, 37088]) hF79 rfl)) (sg_F_m (L := [93, 94, 95, 96, 98, 110, 111, 8088, 9088, 30088, 31088, 32088, 37088]) hF85 rfl)), w⟩
  ·
    have w := w.2 h2
    refine wk_b tt_314 1 (pc' := 11) (ls' := [(0, .inr (.inr (.ref 88)))]) (st' := [.inr (.inr (.ref 88))]) (σ' := σ) rfl ?_
    refine wk_call tt_314 rfl rfl rfl rfl rfl tt_225 rfl (by decide) (w_enter z σ  _  w) (fun u94 σ90 hq92 => ?_)
    obtain ⟨rfl, hF91, w⟩ := hq92
    have w := w hF91
    refine wk_b tt_314 2 (pc' := 16) (ls' := [(0, .inr (.inr (.ref 88)))]) (st' := [.inl (2), .inr (.inr (.ref 88))]) (σ' := σ90) rfl ?_
    refine wk_call tt_314 rfl rfl rfl rfl rfl tt_294 rfl (by decide) (w_newNode z σ90 (2) _ (by decide) w) (fun u100 σ96 hq98 => ?_)
    obtain ⟨q95, rfl, r99, hF97, w⟩ := hq98
    have w := w r99 hF97
    refine wk_b tt_314 3 (pc' := 22) (ls' := [(1, .inl (q95)), (0, .inr (.inr (.ref 88)))]) (st' := [.inl (1), .inr (.inr (.ref 88))]) (σ' := σ96) rfl ?_
    refine wk_call tt_314 rfl rfl rfl rfl rfl tt_334 rfl (by decide) (w_want z σ96 (1) _ (by decide) w) (fun u106 σ102 hq104 => ?_)
    obtain ⟨rfl, hF103, w⟩ := hq104
    have w := w hF103
    refine wk_b tt_314 7 (pc' := 38) (ls' := [(1, .inl (q95)), (0, .inr (.inr (.ref 88)))]) (st' := [.inl ((sg_g σ102 88 7)), .inr (.inr (.ref 92)), .inl (q95), .inr (.inr (.ref 95))]) (σ' := σ102) rfl ?_
    obtain ⟨c107, w⟩ := w
    refine wk_la tt_314 rfl rfl c107.1 c107.2 (sg_Rg _ _ _) ?_
    rw [show (sg_gl σ102 92 ((sg_g σ102 88 7))) = (sg_gl σ 92 ((sg_g σ102 88 7))) from by rw [sg_F_gal hF103 rfl, sg_F_gal hF97 rfl, sg_F_gal hF91 rfl]]
    obtain ⟨c108, w⟩ := w
    refine wk_lS tt_314 rfl rfl c108.1 c108.2 r99 ?_
    generalize hs110 : (sg_wl σ102 95 (q95) ((sg_gl σ 92 ((sg_g σ102 88 7))))) = σ109
    have w := w σ109 hs110.symm
    have hF111 : sg_F [95] σ102 σ109 := by rw [← hs110]; exact sg_F_wl (sg_F_r _ _) rfl _
    refine wk_b tt_314 2 (pc' := 42) (ls' := [(1, .inl (q95)), (0, .inr (.inr (.ref 88)))]) (st' := [.inr (.inr (.ref 88)), .inr (.inr (.ref 88))]) (σ' := σ109) rfl ?_
    obtain ⟨c112, w⟩ := w
    have c112 : p_isName σ109  := by
      rw [pF_isName hF111 rfl rfl rfl]; exact c112
    refine wk_callp tt_314 rfl rfl rfl rfl rfl tt_264 rfl (by decide) (w_isName z σ109   c112) ?_
    rw [vF_isName hF111 rfl rfl rfl]
    refine wk_call tt_314 rfl rfl rfl rfl rfl tt_334 rfl (by decide) (w_want z σ109 ((v_isName σ102)) _ (sg_Rz (vz_isName ..)) w) (fun u118 σ114 hq116 => ?_)
    obtain ⟨rfl, hF115, w⟩ := hq116
    have w := w hF115
    refine wk_b tt_314 3 (pc' := 52) (ls' := [(1, .inl (q95)), (0, .inr (.inr (.ref 88)))]) (st' := [.inl (61), .inr (.inr (.ref 88)), .inr (.inr (.ref 88))]) (σ' := σ114) rfl ?_
    obtain ⟨c119, w⟩ := w
    refine wk_callp tt_314 rfl rfl rfl rfl rfl tt_268 rfl (by decide) (w_isSignNow z σ114 (61) (by decide) c119) ?_
    refine wk_call tt_314 rfl rfl rfl rfl rfl tt_334 rfl (by decide) (w_want z σ114 ((v_isSignNow σ114 (61))) _ (sg_Rz (vz_isSignNow ..)) w) (fun u125 σ121 hq123 => ?_)
    obtain ⟨rfl, hF122, w⟩ := hq123
    have w := w hF122
    refine wk_b tt_314 3 (pc' := 62) (ls' := [(1, .inl (q95)), (0, .inr (.inr (.ref 88)))]) (st' := [.inl (q95), .inl (11), .inr (.inr (.ref 88))]) (σ' := σ121) rfl ?_
    refine wk_call tt_314 rfl rfl rfl rfl rfl tt_305 rfl (by decide) (w_pile z σ121 (11) (q95) _ (by decide) r99 w) (fun u131 σ127 hq129 => ?_)
    obtain ⟨rfl, hF128, w⟩ := hq129
    have w := w hF128
    refine wk_b tt_314 3 (pc' := 69) (ls' := [(1, .inl (q95)), (0, .inr (.inr (.ref 88)))]) (st' := [.inl (0), .inl (12), .inr (.inr (.ref 88))]) (σ' := σ127) rfl ?_
    refine wk_call tt_314 rfl rfl rfl rfl rfl tt_305 rfl (by decide) (w_pile z σ127 (12) (0) _ (by decide) (by decide) w) (fun u137 σ133 hq135 => ?_)
    obtain ⟨rfl, hF134, w⟩ := hq135
    have w := w hF134
    refine wk_b tt_314 3 (pc' := 76) (ls' := [(1, .inl (q95)), (0, .inr (.inr (.ref 88)))]) (st' := [.inl (q95), .inl (10), .inr (.inr (.ref 88))]) (σ' := σ133) rfl ?_
    refine wk_call tt_314 rfl rfl rfl rfl rfl tt_305 rfl (by decide) (w_pile z σ133 (10) (q95) _ (by decide) r99 w) (fun u143 σ139 hq141 => ?_)
    obtain ⟨rfl, hF140, w⟩ := hq141
    have w := w hF140
    refine wk_b tt_314 3 (pc' := 82) (ls' := [(1, .inl (q95)), (0, .inr (.inr (.ref 88)))]) (st' := [.inl (0), .inl (0), .inr (.inr (.ref 88))]) (σ' := σ139) rfl ?_
    refine wk_call tt_314 rfl rfl rfl rfl rfl tt_305 rfl (by decide) (w_pile z σ139 (0) (0) _ (by decide) (by decide) w) (fun u149 σ145 hq147 => ?_)
    obtain ⟨rfl, hF146, w⟩ := hq147
    have w := w hF146
    refine wk_b tt_314 3 (pc' := 89) (ls' := [(1, .inl (q95)), (0, .inr (.inr (.ref 88)))]) (st' := [.inl (0), .inl (14), .inr (.inr (.ref 88))]) (σ' := σ145) rfl ?_
    refine wk_call tt_314 rfl rfl rfl rfl rfl tt_305 rfl (by decide) (w_pile z σ145 (14) (0) _ (by decide) (by decide) w) (fun u155 σ151 hq153 => ?_)
    obtain ⟨rfl, hF152, w⟩ := hq153
    have w := w hF152
    refine wk_b tt_314 3 (pc' := 96) (ls' := [(1, .inl (q95)), (0, .inr (.inr (.ref 88)))]) (st' := [.inl (q95), .inl (10), .inr (.inr (.ref 88))]) (σ' := σ151) rfl ?_
    refine wk_call tt_314 rfl rfl rfl rfl rfl tt_305 rfl (by decide) (w_pile z σ151 (10) (q95) _ (by decide) r99 w) (fun u161 σ157 hq159 => ?_)
    obtain ⟨rfl, hF158, w⟩ := hq159
    have w := w hF158
    refine wk_b tt_314 3 (pc' := 102) (ls' := [(1, .inl (q95)), (0, .inr (.inr (.ref 88)))]) (st' := [.inl (0), .inl (0), .inr (.inr (.ref 88))]) (σ' := σ157) rfl ?_
    refine wk_call tt_314 rfl rfl rfl rfl rfl tt_305 rfl (by decide) (w_pile z σ157 (0) (0) _ (by decide) (by decide) w) (fun u167 σ163 hq165 => ?_)
    obtain ⟨rfl, hF164, w⟩ := hq165
    have w := w hF164
    refine wk_b tt_314 1 (pc' := 209) (ls' := [(1, .inl (q95)), (0, .inr (.inr (.ref 88)))]) (st' := []) (σ' := σ163) rfl ?_
    exact wk_rV tt_314 rfl rfl ⟨rfl, (sg_F_t (sg_F_t (sg_F_t (sg_F_t (sg_F_t (sg_F_t (sg_F_t (sg_F_t (sg_F_t (sg_F_t (sg_F_t (sg_F_t (sg_F_t (sg_F_r [93, 94, 95, 96, 98, 110, 111, 8088, 9088, 30088, 31088, 32088, 37088] σ) (sg_F_m (L := [93, 94, 95, 96, 98, 110, 111, 8088, 9088, 30088, 31088, 32088, 37088]) hF91 rfl)) (sg_F_m (L := [93, 94, 95, 96, 98, 110, 111, 8088, 9088, 30088, 31088, 32088, 37088]) hF97 rfl)) (sg_F_m (L := [93, 94, 95, 96, 98, 110, 111, 8088, 9088, 30088, 31088, 32088, 37088]) hF103 rfl)) (sg_F_m (L := [93, 94, 95, 96, 98, 110, 111, 8088, 9088, 30088, 31088, 32088, 37088]) hF111 rfl)) (sg_F_m (L := [93, 94, 95, 96, 98, 110, 111, 8088, 9088, 30088, 31088, 32088, 37088]) hF115 rfl)) (sg_F_m (L := [93, 94, 95, 96, 98, 110, 111, 8088, 9088, 30088, 31088, 32088, 37088]) hF122 rfl)) (sg_F_m (L := [93, 94, 95, 96, 98, 110, 111, 8088, 9088, 30088, 31088, 32088, 37088]) hF128 rfl)) (sg_F_m (L := [93, 94, 95, 96, 98, 110, 111, 8088, 9088, 30088, 31088, 32088, 37088]) hF134 rfl)) (sg_F_m (L := [93, 94, 95, 96, 98, 110, 111, 8088, 9088, 30088, 31088, 32088, 37088]) hF140 rfl)) (sg_F_m (L := [93, 94, 95, 96, 98, 110, 111, 8088, 9088, 30088, 31088, 32088, 37088]) hF146 rfl)) (sg_F_m (L := [93, 94, 95, 96, 98, 110, 111, 8088, 9088, 30088, 31088, 32088, 37088]) hF152 rfl)) (sg_F_m (L := [93, 94, 95, 96, 98, 110, 111, 8088, 9088, 30088, 31088, 32088, 37088]) hF158 rfl)) (sg_F_m (L := [93, 94, 95, 96, 98, 110, 111, 8088, 9088, 30088, 31088, 32088, 37088]) hF164 rfl)), w⟩
-- NestedVectorsModel.goOn
def V_goOn_0 (σ : sg_S) (Q : sg_S → Prop) : Prop := V_readExpr σ  (fun σ2 => sg_F [93, 94, 95, 96, 98, 110, 111, 8088, 9088, 30088, 31088, 32088, 37088] σ σ2 → Q σ2)
set_option maxHeartbeats 4000000 in
set_option maxRecDepth 8000 in
theorem w_goOn_0 (z : Value) (σ : sg_S) (Q : sg_S → Prop)  (w : V_goOn_0 σ  Q) : wx z 7 253 84 [(0, .inr (.inr (.ref 88)))] [] σ (fun v σ' => v = none ∧ sg_F [93, 94, 95, 96, 98, 110, 111, 8088, 9088, 30088, 31088, 32088, 37088] σ σ' ∧ Q σ') := by
  unfold V_goOn_0 at w
  refine wk_b tt_253 1 (pc' := 85) (ls' := [(0, .inr (.inr (.ref 88)))]) (st' := [.inr (.inr (.ref 88))]) (σ' := σ) rfl ?_
  refine wk_call tt_253 rfl rfl rfl rfl rfl tt_314 rfl (by decide) (w_readExpr z σ  _  w) (fun u6 σ2 hq4 => ?_)
  obtain ⟨rfl, hF3, w⟩ := hq4
  have w := w hF3
  refine wk_b tt_253 1 (pc' := 632) (ls' := [(0, .inr (.inr (.ref 88)))]) (st' := []) (σ' := σ2) rfl ?_
  exact wk_rV tt_253 rfl rfl ⟨rfl, (sg_F_t (sg_F_r [93, 94, 95, 96, 98, 110, 111, 8088, 9088, 30088, 31088, 32088, 37088] σ) (sg_F_m (L := [93, 94, 95, 96, 98, 110, 111, 8088, 9088, 30088, 31088, 32088, 37088]) hF3 rfl)), w⟩
-- NestedVectorsModel.goOn
def V_goOn_1 (σ : sg_S) (Q : sg_S → Prop) : Prop := V_pile σ (2) (0) (fun σ2 => sg_F [110, 111, 32088] σ σ2 → V_pile σ2 (3) (0) (fun σ8 => sg_F [110, 111, 32088] σ2 σ8 → Q σ8))
set_option maxHeartbeats 4000000 in
set_option maxRecDepth 8000 in
theorem w_goOn_1 (z : Value) (σ : sg_S) (Q : sg_S → Prop)  (w : V_goOn_1 σ  Q) : wx z 1 253 91 [(0, .inr (.inr (.ref 88)))] [] σ (fun v σ' => v = none ∧ sg_F [110, 111, 32088] σ σ' ∧ Q σ') := by
  unfold V_goOn_1 at w
  refine wk_b tt_253 3 (pc' := 94) (ls' := [(0, .inr (.inr (.ref 88)))]) (st' := [.inl (0), .inl (2), .inr (.inr (.ref 88))]) (σ' := σ) rfl ?_
  refine wk_call tt_253 rfl rfl rfl rfl rfl tt_305 rfl (by decide) (w_pile z σ (2) (0) _ (by decide) (by decide) w) (fun u6 σ2 hq4 => ?_)
  obtain ⟨rfl, hF3, w⟩ := hq4
  have w := w hF3
  refine wk_b tt_253 3 (pc' := 100) (ls' := [(0, .inr (.inr (.ref 88)))]) (st' := [.inl (0), .inl (3), .inr (.inr (.ref 88))]) (σ' := σ2) rfl ?_
  refine wk_call tt_253 rfl rfl rfl rfl rfl tt_305 rfl (by decide) (w_pile z σ2 (3) (0) _ (by decide) (by decide) w) (fun u12 σ8 hq10 => ?_)
  obtain ⟨rfl, hF9, w⟩ := hq10
  have w := w hF9
  refine wk_b tt_253 1 (pc' := 632) (ls' := [(0, .inr (.inr (.ref 88)))]) (st' := []) (σ' := σ8) rfl ?_
  exact wk_rV tt_253 rfl rfl ⟨rfl, (sg_F_t (sg_F_t (sg_F_r [110, 111, 32088] σ) (sg_F_m (L := [110, 111, 32088]) hF3 rfl)) (sg_F_m (L := [110, 111, 32088]) hF9 rfl)), w⟩
