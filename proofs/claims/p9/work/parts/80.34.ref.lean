/-! Conditions of the reference's methods, by program (34). -/
-- NestedVectorsModel.partOf
def v_partOf (σ : sg_S) (a1 : Int) (a2 : Int) : Int := (if (sg_g σ 93 (a1)) = 15 then (if (sg_g σ 98 (a1)) ≤ a2 then (if (v_hasTest σ (a1)) = 0 then (if ¬ a2 = (sg_g σ 98 (a1)) then ((-1) : Int) else (0 : Int)) else (if ¬ a2 = (sg_g σ 98 (a1)) then (if ¬ a2 = ((sg_g σ 98 (a1)) + 1) then ((-1) : Int) else (0 : Int)) else ((sg_g σ 96 (a1)) - 1))) else (1 + a2)) else (if (sg_g σ 96 (a1)) ≤ a2 then ((-1) : Int) else a2))
def p_partOf (σ : sg_S) (a1 : Int) (a2 : Int) : Prop := (0 ≤ a1 ∧ a1 < 210) ∧ (((sg_g σ 93 (a1)) = 15 → (((sg_g σ 98 (a1)) ≤ a2 → p_hasTest σ (a1) ∧ (((v_hasTest σ (a1)) = 0 → ((¬ a2 = (sg_g σ 98 (a1)) → True) ∧ (a2 = (sg_g σ 98 (a1)) → True))) ∧ (¬ (v_hasTest σ (a1)) = 0 → ((¬ a2 = (sg_g σ 98 (a1)) → sg_R ((sg_g σ 98 (a1)) + 1) ∧ ((¬ a2 = ((sg_g σ 98 (a1)) + 1) → True) ∧ (a2 = ((sg_g σ 98 (a1)) + 1) → True))) ∧ (a2 = (sg_g σ 98 (a1)) → sg_R ((sg_g σ 96 (a1)) - 1) ∧ True))))) ∧ (a2 < (sg_g σ 98 (a1)) → sg_R (1 + a2) ∧ True))) ∧ (¬ (sg_g σ 93 (a1)) = 15 → (((sg_g σ 96 (a1)) ≤ a2 → True) ∧ (a2 < (sg_g σ 96 (a1)) → True))))
set_option maxHeartbeats 4000000 in
set_option maxRecDepth 8000 in
theorem w_partOf (z : Value) (σ : sg_S) (a1 : Int) (a2 : Int) (ra1 : sg_R a1) (ra2 : sg_R a2) (w : p_partOf σ a1 a2) : wx z 1 302 0 [(0, .inr (.inr (.ref 88))), (1, .inl (a1)), (2, .inl (a2))] [] σ (fun v σ' => v = some (.inl (v_partOf σ a1 a2)) ∧ σ' = σ) := by
  unfold p_partOf at w
  refine wk_b tt_302 3 (pc' := 5) (ls' := [(0, .inr (.inr (.ref 88))), (1, .inl (a1)), (2, .inl (a2))]) (st' := [.inl (a1), .inr (.inr (.ref 93))]) (σ' := σ) rfl ?_
  obtain ⟨c1, w⟩ := w
  refine wk_ia tt_302 rfl rfl c1.1 c1.2 ra1 ?_
  refine wk_b tt_302 1 (pc' := 8) (ls' := [(0, .inr (.inr (.ref 88))), (1, .inl (a1)), (2, .inl (a2))]) (st' := [.inl (15), .inl ((sg_g σ 93 (a1)))]) (σ' := σ) rfl ?_
  refine wk_if2 tt_302 (tgt := 27) rfl rfl (sg_Rg _ _ _) (by decide) (fun (h2 : (sg_g σ 93 (a1)) = 15) => ?_) (fun (h2 : ¬ (sg_g σ 93 (a1)) = 15) => ?_)
  ·
    have w := w.1 h2
    refine wk_b tt_302 4 (pc' := 33) (ls' := [(0, .inr (.inr (.ref 88))), (1, .inl (a1)), (2, .inl (a2))]) (st' := [.inl (a1), .inr (.inr (.ref 98)), .inl (a2)]) (σ' := σ) rfl ?_
    refine wk_ia tt_302 rfl rfl c1.1 c1.2 ra1 ?_
    refine wk_if2 tt_302 (tgt := 41) rfl rfl ra2 (sg_Rg _ _ _) (fun (h3 : (sg_g σ 98 (a1)) ≤ a2) => ?_) (fun (h3 : a2 < (sg_g σ 98 (a1))) => ?_)
    ·
      have w := w.1 h3
      refine wk_b tt_302 2 (pc' := 43) (ls' := [(0, .inr (.inr (.ref 88))), (1, .inl (a1)), (2, .inl (a2))]) (st' := [.inl (a1), .inr (.inr (.ref 88))]) (σ' := σ) rfl ?_
      obtain ⟨c4, w⟩ := w
      refine wk_callp tt_302 rfl rfl rfl rfl rfl tt_257 rfl (by decide) (w_hasTest z σ (a1) ra1 c4) ?_
      refine wk_if tt_302 (tgt := 88) rfl rfl (sg_Rz (vz_hasTest ..)) (fun (h5 : (v_hasTest σ (a1)) = 0) => ?_) (fun (h5 : ¬ (v_hasTest σ (a1)) = 0) => ?_)
      ·
        have w := w.1 h5
        refine wk_b tt_302 4 (pc' := 94) (ls' := [(0, .inr (.inr (.ref 88))), (1, .inl (a1)), (2, .inl (a2))]) (st' := [.inl (a1), .inr (.inr (.ref 98)), .inl (a2)]) (σ' := σ) rfl ?_
        refine wk_ia tt_302 rfl rfl c1.1 c1.2 ra1 ?_
        refine wk_if2 tt_302 (tgt := 102) rfl rfl ra2 (sg_Rg _ _ _) (fun (h6 : ¬ a2 = (sg_g σ 98 (a1))) => ?_) (fun (h6 : a2 = (sg_g σ 98 (a1))) => ?_)
        ·
          have w := w.1 h6
          refine wk_b tt_302 1 (pc' := 103) (ls' := [(0, .inr (.inr (.ref 88))), (1, .inl (a1)), (2, .inl (a2))]) (st' := [.inl ((-1))]) (σ' := σ) rfl ?_
          exact wk_rI tt_302 rfl rfl ⟨by rw [v_partOf, if_pos h2, if_pos h3, if_pos h5, if_pos h6], rfl⟩
        ·
          have w := w.2 h6
          refine wk_b tt_302 2 (pc' := 103) (ls' := [(0, .inr (.inr (.ref 88))), (1, .inl (a1)), (2, .inl (a2))]) (st' := [.inl (0)]) (σ' := σ) rfl ?_
          exact wk_rI tt_302 rfl rfl ⟨by rw [v_partOf, if_pos h2, if_pos h3, if_pos h5, if_neg (show ¬ (¬ a2 = (sg_g σ 98 (a1))) by omega)], rfl⟩
      ·
        have w := w.2 h5
        refine wk_b tt_302 4 (pc' := 55) (ls' := [(0, .inr (.inr (.ref 88))), (1, .inl (a1)), (2, .inl (a2))]) (st' := [.inl (a1), .inr (.inr (.ref 98)), .inl (a2)]) (σ' := σ) rfl ?_
        refine wk_ia tt_302 rfl rfl c1.1 c1.2 ra1 ?_
        refine wk_if2 tt_302 (tgt := 70) rfl rfl ra2 (sg_Rg _ _ _) (fun (h7 : ¬ a2 = (sg_g σ 98 (a1))) => ?_) (fun (h7 : a2 = (sg_g σ 98 (a1))) => ?_)
        ·
          have w := w.1 h7
          refine wk_b tt_302 4 (pc' := 76) (ls' := [(0, .inr (.inr (.ref 88))), (1, .inl (a1)), (2, .inl (a2))]) (st' := [.inl (a1), .inr (.inr (.ref 98)), .inl (a2)]) (σ' := σ) rfl ?_
          refine wk_ia tt_302 rfl rfl c1.1 c1.2 ra1 ?_
          obtain ⟨c8, w⟩ := w
          refine wk_b tt_302 2 (pc' := 79) (ls' := [(0, .inr (.inr (.ref 88))), (1, .inl (a1)), (2, .inl (a2))]) (st' := [.inl (((sg_g σ 98 (a1)) + 1)), .inl (a2)]) (σ' := σ) rfl ?_
          refine wk_if2 tt_302 (tgt := 86) rfl rfl ra2 c8 (fun (h9 : ¬ a2 = ((sg_g σ 98 (a1)) + 1)) => ?_) (fun (h9 : a2 = ((sg_g σ 98 (a1)) + 1)) => ?_)
          ·
            have w := w.1 h9
            refine wk_b tt_302 1 (pc' := 87) (ls' := [(0, .inr (.inr (.ref 88))), (1, .inl (a1)), (2, .inl (a2))]) (st' := [.inl ((-1))]) (σ' := σ) rfl ?_
            exact wk_rI tt_302 rfl rfl ⟨by rw [v_partOf, if_pos h2, if_pos h3, if_neg (show ¬ ((v_hasTest σ (a1)) = 0) by omega), if_pos h7, if_pos h9], rfl⟩
          ·
            have w := w.2 h9
            refine wk_b tt_302 2 (pc' := 87) (ls' := [(0, .inr (.inr (.ref 88))), (1, .inl (a1)), (2, .inl (a2))]) (st' := [.inl (0)]) (σ' := σ) rfl ?_
            exact wk_rI tt_302 rfl rfl ⟨by rw [v_partOf, if_pos h2, if_pos h3, if_neg (show ¬ ((v_hasTest σ (a1)) = 0) by omega), if_pos h7, if_neg (show ¬ (¬ a2 = ((sg_g σ 98 (a1)) + 1)) by omega)], rfl⟩
        ·
          have w := w.2 h7
          refine wk_b tt_302 3 (pc' := 64) (ls' := [(0, .inr (.inr (.ref 88))), (1, .inl (a1)), (2, .inl (a2))]) (st' := [.inl (a1), .inr (.inr (.ref 96))]) (σ' := σ) rfl ?_
          refine wk_ia tt_302 rfl rfl c1.1 c1.2 ra1 ?_
          obtain ⟨c10, w⟩ := w
          refine wk_b tt_302 3 (pc' := 87) (ls' := [(0, .inr (.inr (.ref 88))), (1, .inl (a1)), (2, .inl (a2))]) (st' := [.inl (((sg_g σ 96 (a1)) - 1))]) (σ' := σ) rfl ?_
          exact wk_rI tt_302 rfl rfl ⟨by rw [v_partOf, if_pos h2, if_pos h3, if_neg (show ¬ ((v_hasTest σ (a1)) = 0) by omega), if_neg (show ¬ (¬ a2 = (sg_g σ 98 (a1))) by omega)], rfl⟩
    ·
      have w := w.2 h3
      obtain ⟨c11, w⟩ := w
      refine wk_b tt_302 3 (pc' := 40) (ls' := [(0, .inr (.inr (.ref 88))), (1, .inl (a1)), (2, .inl (a2))]) (st' := [.inl ((1 + a2))]) (σ' := σ) rfl ?_
      exact wk_rI tt_302 rfl rfl ⟨by rw [v_partOf, if_pos h2, if_neg (show ¬ ((sg_g σ 98 (a1)) ≤ a2) by omega)], rfl⟩
  ·
    have w := w.2 h2
    refine wk_b tt_302 4 (pc' := 17) (ls' := [(0, .inr (.inr (.ref 88))), (1, .inl (a1)), (2, .inl (a2))]) (st' := [.inl (a1), .inr (.inr (.ref 96)), .inl (a2)]) (σ' := σ) rfl ?_
    refine wk_ia tt_302 rfl rfl c1.1 c1.2 ra1 ?_
    refine wk_if2 tt_302 (tgt := 25) rfl rfl ra2 (sg_Rg _ _ _) (fun (h12 : (sg_g σ 96 (a1)) ≤ a2) => ?_) (fun (h12 : a2 < (sg_g σ 96 (a1))) => ?_)
    ·
      have w := w.1 h12
      refine wk_b tt_302 1 (pc' := 26) (ls' := [(0, .inr (.inr (.ref 88))), (1, .inl (a1)), (2, .inl (a2))]) (st' := [.inl ((-1))]) (σ' := σ) rfl ?_
      exact wk_rI tt_302 rfl rfl ⟨by rw [v_partOf, if_neg (show ¬ ((sg_g σ 93 (a1)) = 15) by omega), if_pos h12], rfl⟩
    ·
      have w := w.2 h12
      refine wk_b tt_302 2 (pc' := 26) (ls' := [(0, .inr (.inr (.ref 88))), (1, .inl (a1)), (2, .inl (a2))]) (st' := [.inl (a2)]) (σ' := σ) rfl ?_
      exact wk_rI tt_302 rfl rfl ⟨by rw [v_partOf, if_neg (show ¬ ((sg_g σ 93 (a1)) = 15) by omega), if_neg (show ¬ ((sg_g σ 96 (a1)) ≤ a2) by omega)], rfl⟩
theorem vF_partOf {L : List Nat} {σ σ' : sg_S} {a1 : Int} {a2 : Int} (hF : sg_F L σ σ') (h0 : sg_ca L 93 = true) (h1 : sg_ca L 96 = true) (h2 : sg_ca L 98 = true) : v_partOf σ' a1 a2 = v_partOf σ a1 a2 := by
  unfold v_partOf
  simp only [sg_F_ga (k := _) hF h0, sg_F_gal (k := _) hF h0, sg_F_ga (k := _) hF h1, sg_F_gal (k := _) hF h1, sg_F_ga (k := _) hF h2, sg_F_gal (k := _) hF h2, vF_hasTest hF h1 h2, pF_hasTest hF h1 h2, vF_has hF h1, pF_has hF h1]
theorem pF_partOf {L : List Nat} {σ σ' : sg_S} {a1 : Int} {a2 : Int} (hF : sg_F L σ σ') (h0 : sg_ca L 93 = true) (h1 : sg_ca L 96 = true) (h2 : sg_ca L 98 = true) : p_partOf σ' a1 a2 = p_partOf σ a1 a2 := by
  unfold p_partOf
  simp only [sg_F_ga (k := _) hF h0, sg_F_gal (k := _) hF h0, sg_F_ga (k := _) hF h1, sg_F_gal (k := _) hF h1, sg_F_ga (k := _) hF h2, sg_F_gal (k := _) hF h2, vF_hasTest hF h1 h2, pF_hasTest hF h1 h2, vF_has hF h1, pF_has hF h1]
theorem vr_partOf (σ : sg_S) (a1 : Int) (a2 : Int) (ra1 : sg_R a1) (ra2 : sg_R a2) (w : p_partOf σ a1 a2) : sg_R (v_partOf σ a1 a2) := by
  unfold v_partOf
  unfold p_partOf at w
  by_cases h : (sg_g σ 93 (a1)) = 15
  · rw [if_pos h]
    first | (have w := w.1 h) | (have w := w.2.1 h) | (have w := w.2.2.1 h) | skip
    by_cases h : (sg_g σ 98 (a1)) ≤ a2
    · rw [if_pos h]
      first | (have w := w.1 h) | (have w := w.2.1 h) | (have w := w.2.2.1 h) | skip
      by_cases h : (v_hasTest σ (a1)) = 0
      · rw [if_pos h]
        first | (have w := w.1 h) | (have w := w.2.1 h) | (have w := w.2.2.1 h) | skip
        by_cases h : ¬ a2 = (sg_g σ 98 (a1))
        · rw [if_pos h]
          first | (have w := w.1 h) | (have w := w.2.1 h) | (have w := w.2.2.1 h) | skip
          decide
        · rw [if_neg h]
          first | (have w := w.2 (by omega)) | (have w := w.2.2 (by omega)) | (have w := w.2.2.2 (by omega)) | skip
          decide
      · rw [if_neg h]
        first | (have w := w.2 (by omega)) | (have w := w.2.2 (by omega)) | (have w := w.2.2.2 (by omega)) | skip
        by_cases h : ¬ a2 = (sg_g σ 98 (a1))
        · rw [if_pos h]
          first | (have w := w.1 h) | (have w := w.2.1 h) | (have w := w.2.2.1 h) | skip
          by_cases h : ¬ a2 = ((sg_g σ 98 (a1)) + 1)
          · rw [if_pos h]
            first | (have w := w.1 h) | (have w := w.2.1 h) | (have w := w.2.2.1 h) | skip
            decide
          · rw [if_neg h]
            first | (have w := w.2 (by omega)) | (have w := w.2.2 (by omega)) | (have w := w.2.2.2 (by omega)) | skip
            decide
        · rw [if_neg h]
          first | (have w := w.2 (by omega)) | (have w := w.2.2 (by omega)) | (have w := w.2.2.2 (by omega)) | skip
          first | exact w.1 | exact w.2.1 | exact w.2.2.1 | exact sg_Rg _ _ _ | exact sg_Rgl _ _ _ | exact sg_Rr _ | exact sg_RLr _ | assumption | omega | (constructor <;> omega)
    · rw [if_neg h]
      first | (have w := w.2 (by omega)) | (have w := w.2.2 (by omega)) | (have w := w.2.2.2 (by omega)) | skip
      first | exact w.1 | exact w.2.1 | exact w.2.2.1 | exact sg_Rg _ _ _ | exact sg_Rgl _ _ _ | exact sg_Rr _ | exact sg_RLr _ | assumption | omega | (constructor <;> omega)
  · rw [if_neg h]
    first | (have w := w.2 (by omega)) | (have w := w.2.2 (by omega)) | (have w := w.2.2.2 (by omega)) | skip
    by_cases h : (sg_g σ 96 (a1)) ≤ a2
    · rw [if_pos h]
      first | (have w := w.1 h) | (have w := w.2.1 h) | (have w := w.2.2.1 h) | skip
      decide
    · rw [if_neg h]
      first | (have w := w.2 (by omega)) | (have w := w.2.2 (by omega)) | (have w := w.2.2.2 (by omega)) | skip
      first | exact w.1 | exact w.2.1 | exact w.2.2.1 | exact sg_Rg _ _ _ | exact sg_Rgl _ _ _ | exact sg_Rr _ | exact sg_RLr _ | assumption | omega | (constructor <;> omega)
-- NestedVectorsModel.lookAt
def V_lookAt_0 (σ : sg_S) (b1 : Int) (Q : sg_S → Prop) : Prop := (0 ≤ b1 ∧ b1 < 210) ∧ ∀ σ2, σ2 = (sg_w σ 101 (b1) (0)) → Q σ2
set_option maxHeartbeats 4000000 in
set_option maxRecDepth 8000 in
theorem w_lookAt_0 (z : Value) (σ : sg_S) (b1 : Int) (Q : sg_S → Prop) (rb1 : sg_R b1) (w : V_lookAt_0 σ b1 Q) : wx z 0 285 124 [(0, .inr (.inr (.ref 88))), (1, .inl (b1))] [] σ (fun v σ' => v = none ∧ sg_F [101] σ σ' ∧ Q σ') := by
  unfold V_lookAt_0 at w
  refine wk_b tt_285 4 (pc' := 130) (ls' := [(0, .inr (.inr (.ref 88))), (1, .inl (b1))]) (st' := [.inl (0), .inl (b1), .inr (.inr (.ref 101))]) (σ' := σ) rfl ?_
  obtain ⟨c1, w⟩ := w
  refine wk_is tt_285 rfl rfl c1.1 c1.2 rb1 ?_
  generalize hs3 : (sg_w σ 101 (b1) (0)) = σ2
  have w := w σ2 hs3.symm
  have hF4 : sg_F [101] σ σ2 := by rw [← hs3]; exact sg_F_w (sg_F_r _ _) rfl _
  refine wk_b tt_285 1 (pc' := 419) (ls' := [(0, .inr (.inr (.ref 88))), (1, .inl (b1))]) (st' := []) (σ' := σ2) rfl ?_
  exact wk_rV tt_285 rfl rfl ⟨rfl, (sg_F_t (sg_F_r [101] σ) (sg_F_m (L := [101]) hF4 rfl)), w⟩
-- NestedVectorsModel.lookAt
def V_lookAt_1 (σ : sg_S) (b1 : Int) (Q : sg_S → Prop) : Prop := (0 ≤ b1 ∧ b1 < 210) ∧ V_knownAt σ ((sg_gl σ 95 (b1))) (fun q2 _ => sg_R q2 → ((0 ≤ q2 → (0 ≤ q2 ∧ q2 < 300) ∧ ∀ σ10, σ10 = (sg_w σ 102 (b1) ((sg_g σ 114 (q2)))) → ∀ σ13, σ13 = (sg_w σ10 101 (b1) ((sg_g σ 115 (q2)))) → Q σ13) ∧ (q2 < 0 → V_wrong σ (2) ((sg_g σ 94 (b1))) (fun σ17 => sg_F [30088, 31088] σ σ17 → Q σ17))))
set_option maxHeartbeats 4000000 in
set_option maxRecDepth 8000 in
theorem w_lookAt_1 (z : Value) (σ : sg_S) (b1 : Int) (Q : sg_S → Prop) (rb1 : sg_R b1) (w : V_lookAt_1 σ b1 Q) : wx z 1 285 134 [(0, .inr (.inr (.ref 88))), (1, .inl (b1))] [] σ (fun v σ' => v = none ∧ sg_F [101, 102, 30088, 31088] σ σ' ∧ Q σ') := by
  unfold V_lookAt_1 at w
  refine wk_b tt_285 4 (pc' := 140) (ls' := [(0, .inr (.inr (.ref 88))), (1, .inl (b1))]) (st' := [.inl (b1), .inr (.inr (.ref 95)), .inr (.inr (.ref 88))]) (σ' := σ) rfl ?_
  obtain ⟨c1, w⟩ := w
  refine wk_la tt_285 rfl rfl c1.1 c1.2 rb1 ?_
  refine wk_call tt_285 rfl rfl rfl rfl rfl tt_275 rfl (by decide) (w_knownAt z σ ((sg_gl σ 95 (b1))) _ (sg_Rgl _ _ _) w) (fun u7 σ3 hq5 => ?_)
  obtain ⟨q2, rfl, r6, rfl, w⟩ := hq5
  have w := w r6
  refine wk_b tt_285 2 (pc' := 148) (ls' := [(4, .inl (q2)), (0, .inr (.inr (.ref 88))), (1, .inl (b1))]) (st' := [.inl (q2)]) (σ' := σ) rfl ?_
  refine wk_if tt_285 (tgt := 165) rfl rfl r6 (fun (h8 : 0 ≤ q2) => ?_) (fun (h8 : q2 < 0) => ?_)
  ·
    have w := w.1 h8
    refine wk_b tt_285 6 (pc' := 176) (ls' := [(4, .inl (q2)), (0, .inr (.inr (.ref 88))), (1, .inl (b1))]) (st' := [.inl (q2), .inr (.inr (.ref 114)), .inl (b1), .inr (.inr (.ref 102))]) (σ' := σ) rfl ?_
    obtain ⟨c9, w⟩ := w
    refine wk_ia tt_285 rfl rfl c9.1 c9.2 r6 ?_
    refine wk_is tt_285 rfl rfl c1.1 c1.2 rb1 ?_
    generalize hs11 : (sg_w σ 102 (b1) ((sg_g σ 114 (q2)))) = σ10
    have w := w σ10 hs11.symm
    have hF12 : sg_F [102] σ σ10 := by rw [← hs11]; exact sg_F_w (sg_F_r _ _) rfl _
    refine wk_b tt_285 6 (pc' := 189) (ls' := [(4, .inl (q2)), (0, .inr (.inr (.ref 88))), (1, .inl (b1))]) (st' := [.inl (q2), .inr (.inr (.ref 115)), .inl (b1), .inr (.inr (.ref 101))]) (σ' := σ10) rfl ?_
    refine wk_ia tt_285 rfl rfl c9.1 c9.2 r6 ?_
    rw [show (sg_g σ10 115 (q2)) = (sg_g σ 115 (q2)) from by rw [sg_F_ga hF12 rfl]]
    refine wk_is tt_285 rfl rfl c1.1 c1.2 rb1 ?_
    generalize hs14 : (sg_w σ10 101 (b1) ((sg_g σ 115 (q2)))) = σ13
    have w := w σ13 hs14.symm
    have hF15 : sg_F [101] σ10 σ13 := by rw [← hs14]; exact sg_F_w (sg_F_r _ _) rfl _
    refine wk_b tt_285 1 (pc' := 419) (ls' := [(4, .inl (q2)), (0, .inr (.inr (.ref 88))), (1, .inl (b1))]) (st' := []) (σ' := σ13) rfl ?_
    exact wk_rV tt_285 rfl rfl ⟨rfl, (sg_F_t (sg_F_t (sg_F_r [101, 102, 30088, 31088] σ) (sg_F_m (L := [101, 102, 30088, 31088]) hF12 rfl)) (sg_F_m (L := [101, 102, 30088, 31088]) hF15 rfl)), w⟩
  ·
    have w := w.2 h8
    refine wk_b tt_285 5 (pc' := 158) (ls' := [(4, .inl (q2)), (0, .inr (.inr (.ref 88))), (1, .inl (b1))]) (st' := [.inl (b1), .inr (.inr (.ref 94)), .inl (2), .inr (.inr (.ref 88))]) (σ' := σ) rfl ?_
    refine wk_ia tt_285 rfl rfl c1.1 c1.2 rb1 ?_
    refine wk_call tt_285 rfl rfl rfl rfl rfl tt_336 rfl (by decide) (w_wrong z σ (2) ((sg_g σ 94 (b1))) _ (by decide) (sg_Rg _ _ _) w) (fun u21 σ17 hq19 => ?_)
    obtain ⟨rfl, hF18, w⟩ := hq19
    have w := w hF18
    refine wk_b tt_285 1 (pc' := 419) (ls' := [(4, .inl (q2)), (0, .inr (.inr (.ref 88))), (1, .inl (b1))]) (st' := []) (σ' := σ17) rfl ?_
    exact wk_rV tt_285 rfl rfl ⟨rfl, (sg_F_t (sg_F_r [101, 102, 30088, 31088] σ) (sg_F_m (L := [101, 102, 30088, 31088]) hF18 rfl)), w⟩
-- NestedVectorsModel.lookAt
def V_lookAt_2 (σ : sg_S) (b1 : Int) (b3 : Int) (Q : sg_S → Prop) : Prop := (0 ≤ b1 ∧ b1 < 210) ∧ ∀ σ2, σ2 = (sg_w σ 101 (b1) (b3)) → Q σ2
set_option maxHeartbeats 4000000 in
set_option maxRecDepth 8000 in
theorem w_lookAt_2 (z : Value) (σ : sg_S) (b1 : Int) (b3 : Int) (Q : sg_S → Prop) (rb1 : sg_R b1) (rb3 : sg_R b3) (w : V_lookAt_2 σ b1 b3 Q) : wx z 0 285 194 [(0, .inr (.inr (.ref 88))), (1, .inl (b1)), (3, .inl (b3))] [] σ (fun v σ' => v = none ∧ sg_F [101] σ σ' ∧ Q σ') := by
  unfold V_lookAt_2 at w
  refine wk_b tt_285 4 (pc' := 200) (ls' := [(0, .inr (.inr (.ref 88))), (1, .inl (b1)), (3, .inl (b3))]) (st' := [.inl (b3), .inl (b1), .inr (.inr (.ref 101))]) (σ' := σ) rfl ?_
  obtain ⟨c1, w⟩ := w
  refine wk_is tt_285 rfl rfl c1.1 c1.2 rb1 ?_
  generalize hs3 : (sg_w σ 101 (b1) (b3)) = σ2
  have w := w σ2 hs3.symm
  have hF4 : sg_F [101] σ σ2 := by rw [← hs3]; exact sg_F_w (sg_F_r _ _) rfl _
  refine wk_b tt_285 1 (pc' := 419) (ls' := [(0, .inr (.inr (.ref 88))), (1, .inl (b1)), (3, .inl (b3))]) (st' := []) (σ' := σ2) rfl ?_
  exact wk_rV tt_285 rfl rfl ⟨rfl, (sg_F_t (sg_F_r [101] σ) (sg_F_m (L := [101]) hF4 rfl)), w⟩
-- NestedVectorsModel.typed
def V_typed (σ : sg_S) (a1 : Int) (a2 : Int) (a3 : Int) (Q : sg_S → Prop) : Prop := (∃ P3 : sg_S → Prop, ((a2 = 0 → (0 ≤ a1 ∧ a1 < 210) ∧ V_wrong σ (3) ((sg_g σ 94 (a1))) (fun σ13 => sg_F [30088, 31088] σ σ13 → P3 σ13)) ∧ (¬ a2 = 0 → ((a3 ≤ 3 → P3 σ) ∧ (3 < a3 → (0 ≤ a1 ∧ a1 < 210) ∧ V_wrong σ (3) ((sg_g σ 94 (a1))) (fun σ21 => sg_F [30088, 31088] σ σ21 → P3 σ21))))) ∧ (∀ (σ4 : sg_S), sg_F [30088, 31088] σ σ4 → P3 σ4 → (0 ≤ a1 ∧ a1 < 210) ∧ ∀ σ8, σ8 = (sg_w σ4 101 (a1) (a3)) → Q σ8))
set_option maxHeartbeats 4000000 in
set_option maxRecDepth 8000 in
theorem w_typed (z : Value) (σ : sg_S) (a1 : Int) (a2 : Int) (a3 : Int) (Q : sg_S → Prop) (ra1 : sg_R a1) (ra2 : sg_R a2) (ra3 : sg_R a3) (w : V_typed σ a1 a2 a3 Q) : wx z 1 333 0 [(0, .inr (.inr (.ref 88))), (1, .inl (a1)), (2, .inl (a2)), (3, .inl (a3))] [] σ (fun v σ' => v = none ∧ sg_F [101, 30088, 31088] σ σ' ∧ Q σ') := by
  unfold V_typed at w
  refine wk_b tt_333 1 (pc' := 1) (ls' := [(0, .inr (.inr (.ref 88))), (1, .inl (a1)), (2, .inl (a2)), (3, .inl (a3))]) (st' := [.inl (a2)]) (σ' := σ) rfl ?_
  obtain ⟨P3, w, w6⟩ := w
  have jn2 : ∀ (σ4 : sg_S), sg_F [30088, 31088] σ σ4 → P3 σ4 → wx z 1 333 20 [(0, .inr (.inr (.ref 88))), (1, .inl (a1)), (3, .inl (a3))] [] σ4 (fun v σ' => v = none ∧ sg_F [101, 30088, 31088] σ σ' ∧ Q σ') := by
    intro σ4 hF5 w
    have w := w6 σ4 hF5 w
    refine wk_b tt_333 4 (pc' := 26) (ls' := [(0, .inr (.inr (.ref 88))), (1, .inl (a1)), (3, .inl (a3))]) (st' := [.inl (a3), .inl (a1), .inr (.inr (.ref 101))]) (σ' := σ4) rfl ?_
    obtain ⟨c7, w⟩ := w
    refine wk_is tt_333 rfl rfl c7.1 c7.2 ra1 ?_
    generalize hs9 : (sg_w σ4 101 (a1) (a3)) = σ8
    have w := w σ8 hs9.symm
    have hF10 : sg_F [101] σ4 σ8 := by rw [← hs9]; exact sg_F_w (sg_F_r _ _) rfl _
    exact wk_rV tt_333 rfl rfl ⟨rfl, (sg_F_t (sg_F_t (sg_F_r [101, 30088, 31088] σ) (sg_F_m (L := [101, 30088, 31088]) hF5 rfl)) (sg_F_m (L := [101, 30088, 31088]) hF10 rfl)), w⟩
  refine wk_if tt_333 (tgt := 9) rfl rfl ra2 (fun (h1 : a2 = 0) => ?_) (fun (h1 : ¬ a2 = 0) => ?_)
  ·
    have w := w.1 h1
    refine wk_b tt_333 5 (pc' := 16) (ls' := [(0, .inr (.inr (.ref 88))), (1, .inl (a1)), (2, .inl (a2)), (3, .inl (a3))]) (st' := [.inl (a1), .inr (.inr (.ref 94)), .inl (3), .inr (.inr (.ref 88))]) (σ' := σ) rfl ?_
    obtain ⟨c11, w⟩ := w
    refine wk_ia tt_333 rfl rfl c11.1 c11.2 ra1 ?_
    refine wk_call tt_333 rfl rfl rfl rfl rfl tt_336 rfl (by decide) (w_wrong z σ (3) ((sg_g σ 94 (a1))) _ (by decide) (sg_Rg _ _ _) w) (fun u17 σ13 hq15 => ?_)
    obtain ⟨rfl, hF14, w⟩ := hq15
    have w := w hF14
    exact wk_ls [(0, .inr (.inr (.ref 88))), (1, .inl (a1)), (3, .inl (a3))] rfl ⟨rfl, rfl, rfl, trivial⟩ (jn2 σ13 (sg_F_t (sg_F_r [30088, 31088] σ) (sg_F_m (L := [30088, 31088]) hF14 rfl)) w)
  ·
    have w := w.2 h1
    refine wk_b tt_333 2 (pc' := 6) (ls' := [(0, .inr (.inr (.ref 88))), (1, .inl (a1)), (2, .inl (a2)), (3, .inl (a3))]) (st' := [.inl (3), .inl (a3)]) (σ' := σ) rfl ?_
    refine wk_if2 tt_333 (tgt := 20) rfl rfl ra3 (by decide) (fun (h18 : a3 ≤ 3) => ?_) (fun (h18 : 3 < a3) => ?_)
    ·
      have w := w.1 h18
      exact wk_ls [(0, .inr (.inr (.ref 88))), (1, .inl (a1)), (3, .inl (a3))] rfl ⟨rfl, rfl, rfl, trivial⟩ (jn2 σ (sg_F_r [30088, 31088] σ) w)
    ·
      have w := w.2 h18
      refine wk_b tt_333 5 (pc' := 16) (ls' := [(0, .inr (.inr (.ref 88))), (1, .inl (a1)), (2, .inl (a2)), (3, .inl (a3))]) (st' := [.inl (a1), .inr (.inr (.ref 94)), .inl (3), .inr (.inr (.ref 88))]) (σ' := σ) rfl ?_
      obtain ⟨c19, w⟩ := w
      refine wk_ia tt_333 rfl rfl c19.1 c19.2 ra1 ?_
      refine wk_call tt_333 rfl rfl rfl rfl rfl tt_336 rfl (by decide) (w_wrong z σ (3) ((sg_g σ 94 (a1))) _ (by decide) (sg_Rg _ _ _) w) (fun u25 σ21 hq23 => ?_)
      obtain ⟨rfl, hF22, w⟩ := hq23
      have w := w hF22
      exact wk_ls [(0, .inr (.inr (.ref 88))), (1, .inl (a1)), (3, .inl (a3))] rfl ⟨rfl, rfl, rfl, trivial⟩ (jn2 σ21 (sg_F_t (sg_F_r [30088, 31088] σ) (sg_F_m (L := [30088, 31088]) hF22 rfl)) w)
-- NestedVectorsModel.lookAt
def V_lookAt_3 (σ : sg_S) (b1 : Int) (b2 : Int) (b3 : Int) (Q : sg_S → Prop) : Prop := ((¬ b2 = 0 → True) ∧ (b2 = 0 → p_kidType σ (b1) (2) ∧ ((¬ b3 = (v_kidType σ (b1) (2)) → True) ∧ (b3 = (v_kidType σ (b1) (2)) → True)))) ∧ ∀ v3 : Int, v3 = (if ¬ b2 = 0 then (0 : Int) else (if ¬ b3 = (v_kidType σ (b1) (2)) then (0 : Int) else (1 : Int))) → sg_R v3 → V_typed σ (b1) (v3) (b3) (fun σ7 => sg_F [101, 30088, 31088] σ σ7 → Q σ7)
set_option maxHeartbeats 4000000 in
set_option maxRecDepth 8000 in
theorem w_lookAt_3 (z : Value) (σ : sg_S) (b1 : Int) (b2 : Int) (b3 : Int) (Q : sg_S → Prop) (rb1 : sg_R b1) (rb2 : sg_R b2) (rb3 : sg_R b3) (w : V_lookAt_3 σ b1 b2 b3 Q) : wx z 2 285 204 [(0, .inr (.inr (.ref 88))), (1, .inl (b1)), (2, .inl (b2)), (3, .inl (b3))] [] σ (fun v σ' => v = none ∧ sg_F [101, 30088, 31088] σ σ' ∧ Q σ') := by
  unfold V_lookAt_3 at w
  refine wk_b tt_285 3 (pc' := 207) (ls' := [(0, .inr (.inr (.ref 88))), (1, .inl (b1)), (2, .inl (b2)), (3, .inl (b3))]) (st' := [.inl (b2), .inl (b1), .inr (.inr (.ref 88))]) (σ' := σ) rfl ?_
  obtain ⟨wp, w⟩ := w
  have jn2 : ∀ v3 : Int, v3 = (if ¬ b2 = 0 then (0 : Int) else (if ¬ b3 = (v_kidType σ (b1) (2)) then (0 : Int) else (1 : Int))) → sg_R v3 → wx z 2 285 225 [(3, .inl (b3))] [.inl (v3), .inl (b1), .inr (.inr (.ref 88))] σ (fun v σ' => v = none ∧ sg_F [101, 30088, 31088] σ σ' ∧ Q σ') := by
    intro v3 e5 r4
    have w := w v3 e5 r4
    refine wk_b tt_285 1 (pc' := 226) (ls' := [(3, .inl (b3))]) (st' := [.inl (b3), .inl (v3), .inl (b1), .inr (.inr (.ref 88))]) (σ' := σ) rfl ?_
    refine wk_call tt_285 rfl rfl rfl rfl rfl tt_333 rfl (by decide) (w_typed z σ (b1) (v3) (b3) _ rb1 r4 rb3 w) (fun u11 σ7 hq9 => ?_)
    obtain ⟨rfl, hF8, w⟩ := hq9
    have w := w hF8
    refine wk_b tt_285 1 (pc' := 419) (ls' := [(3, .inl (b3))]) (st' := []) (σ' := σ7) rfl ?_
    exact wk_rV tt_285 rfl rfl ⟨rfl, (sg_F_t (sg_F_r [101, 30088, 31088] σ) (sg_F_m (L := [101, 30088, 31088]) hF8 rfl)), w⟩
  have w := wp
  refine wk_if tt_285 (tgt := 224) rfl rfl rb2 (fun (h1 : ¬ b2 = 0) => ?_) (fun (h1 : b2 = 0) => ?_)
  ·
    have w := w.1 h1
    refine wk_b tt_285 1 (pc' := 225) (ls' := [(0, .inr (.inr (.ref 88))), (1, .inl (b1)), (2, .inl (b2)), (3, .inl (b3))]) (st' := [.inl (0), .inl (b1), .inr (.inr (.ref 88))]) (σ' := σ) rfl ?_
    exact wk_ls [(3, .inl (b3))] rfl ⟨rfl, trivial⟩ (jn2 (0) (by simp only [if_pos h1]) (by decide))
  ·
    have w := w.2 h1
    refine wk_b tt_285 4 (pc' := 214) (ls' := [(0, .inr (.inr (.ref 88))), (1, .inl (b1)), (2, .inl (b2)), (3, .inl (b3))]) (st' := [.inl (2), .inl (b1), .inr (.inr (.ref 88)), .inl (b3), .inl (b1), .inr (.inr (.ref 88))]) (σ' := σ) rfl ?_
    obtain ⟨c12, w⟩ := w
    refine wk_callp tt_285 rfl rfl rfl rfl rfl tt_273 rfl (by decide) (w_kidType z σ (b1) (2) rb1 (by decide) c12) ?_
    have r13 := vr_kidType σ  (b1) (2) rb1 (by decide) c12
    refine wk_if2 tt_285 (tgt := 224) rfl rfl rb3 r13 (fun (h14 : ¬ b3 = (v_kidType σ (b1) (2))) => ?_) (fun (h14 : b3 = (v_kidType σ (b1) (2))) => ?_)
    ·
      have w := w.1 h14
      refine wk_b tt_285 1 (pc' := 225) (ls' := [(0, .inr (.inr (.ref 88))), (1, .inl (b1)), (2, .inl (b2)), (3, .inl (b3))]) (st' := [.inl (0), .inl (b1), .inr (.inr (.ref 88))]) (σ' := σ) rfl ?_
      exact wk_ls [(3, .inl (b3))] rfl ⟨rfl, trivial⟩ (jn2 (0) (by simp only [if_neg (show ¬ (¬ b2 = 0) by omega), if_pos h14]) (by decide))
    ·
      have w := w.2 h14
      refine wk_b tt_285 2 (pc' := 225) (ls' := [(0, .inr (.inr (.ref 88))), (1, .inl (b1)), (2, .inl (b2)), (3, .inl (b3))]) (st' := [.inl (1), .inl (b1), .inr (.inr (.ref 88))]) (σ' := σ) rfl ?_
      exact wk_ls [(3, .inl (b3))] rfl ⟨rfl, trivial⟩ (jn2 (1) (by simp only [if_neg (show ¬ (¬ b2 = 0) by omega), if_neg (show ¬ (¬ b3 = (v_kidType σ (b1) (2))) by omega)]) (by decide))
-- NestedVectorsModel.lookAt
def V_lookAt_11 (σ : sg_S) (b1 : Int) (b2 : Int) (Q : sg_S → Prop) : Prop := ∀ v3 : Int, v3 = (if b2 ≤ 0 then (0 : Int) else (1 : Int)) → sg_R v3 → V_typed σ (b1) (v3) (0) (fun σ7 => sg_F [101, 30088, 31088] σ σ7 → Q σ7)
set_option maxHeartbeats 4000000 in
set_option maxRecDepth 8000 in
theorem w_lookAt_11 (z : Value) (σ : sg_S) (b1 : Int) (b2 : Int) (Q : sg_S → Prop) (rb1 : sg_R b1) (rb2 : sg_R b2) (w : V_lookAt_11 σ b1 b2 Q) : wx z 2 285 232 [(0, .inr (.inr (.ref 88))), (1, .inl (b1)), (2, .inl (b2))] [] σ (fun v σ' => v = none ∧ sg_F [101, 30088, 31088] σ σ' ∧ Q σ') := by
  unfold V_lookAt_11 at w
  refine wk_b tt_285 3 (pc' := 235) (ls' := [(0, .inr (.inr (.ref 88))), (1, .inl (b1)), (2, .inl (b2))]) (st' := [.inl (b2), .inl (b1), .inr (.inr (.ref 88))]) (σ' := σ) rfl ?_
  have jn2 : ∀ v3 : Int, v3 = (if b2 ≤ 0 then (0 : Int) else (1 : Int)) → sg_R v3 → wx z 2 285 243 [] [.inl (v3), .inl (b1), .inr (.inr (.ref 88))] σ (fun v σ' => v = none ∧ sg_F [101, 30088, 31088] σ σ' ∧ Q σ') := by
    intro v3 e5 r4
    have w := w v3 e5 r4
    refine wk_b tt_285 1 (pc' := 244) (ls' := []) (st' := [.inl (0), .inl (v3), .inl (b1), .inr (.inr (.ref 88))]) (σ' := σ) rfl ?_
    refine wk_call tt_285 rfl rfl rfl rfl rfl tt_333 rfl (by decide) (w_typed z σ (b1) (v3) (0) _ rb1 r4 (by decide) w) (fun u11 σ7 hq9 => ?_)
    obtain ⟨rfl, hF8, w⟩ := hq9
    have w := w hF8
    refine wk_b tt_285 1 (pc' := 419) (ls' := []) (st' := []) (σ' := σ7) rfl ?_
    exact wk_rV tt_285 rfl rfl ⟨rfl, (sg_F_t (sg_F_r [101, 30088, 31088] σ) (sg_F_m (L := [101, 30088, 31088]) hF8 rfl)), w⟩
  refine wk_if tt_285 (tgt := 242) rfl rfl rb2 (fun (h1 : b2 ≤ 0) => ?_) (fun (h1 : 0 < b2) => ?_)
  ·
    clear w
    refine wk_b tt_285 1 (pc' := 243) (ls' := [(0, .inr (.inr (.ref 88))), (1, .inl (b1)), (2, .inl (b2))]) (st' := [.inl (0), .inl (b1), .inr (.inr (.ref 88))]) (σ' := σ) rfl ?_
    exact wk_ls [] rfl trivial (jn2 (0) (by simp only [if_pos h1]) (by decide))
  ·
    clear w
    refine wk_b tt_285 2 (pc' := 243) (ls' := [(0, .inr (.inr (.ref 88))), (1, .inl (b1)), (2, .inl (b2))]) (st' := [.inl (1), .inl (b1), .inr (.inr (.ref 88))]) (σ' := σ) rfl ?_
    exact wk_ls [] rfl trivial (jn2 (1) (by simp only [if_neg (show ¬ (b2 ≤ 0) by omega)]) (by decide))
-- NestedVectorsModel.lookAt
def V_lookAt_12 (σ : sg_S) (b1 : Int) (b2 : Int) (b3 : Int) (Q : sg_S → Prop) : Prop := ∀ v3 : Int, v3 = (if b2 ≤ 0 then (0 : Int) else (if ¬ b3 = 0 then (0 : Int) else (1 : Int))) → sg_R v3 → sg_R (b2 - 1) ∧ V_typed σ (b1) (v3) ((b2 - 1)) (fun σ8 => sg_F [101, 30088, 31088] σ σ8 → Q σ8)
set_option maxHeartbeats 4000000 in
set_option maxRecDepth 8000 in
theorem w_lookAt_12 (z : Value) (σ : sg_S) (b1 : Int) (b2 : Int) (b3 : Int) (Q : sg_S → Prop) (rb1 : sg_R b1) (rb2 : sg_R b2) (rb3 : sg_R b3) (w : V_lookAt_12 σ b1 b2 b3 Q) : wx z 2 285 250 [(0, .inr (.inr (.ref 88))), (1, .inl (b1)), (2, .inl (b2)), (3, .inl (b3))] [] σ (fun v σ' => v = none ∧ sg_F [101, 30088, 31088] σ σ' ∧ Q σ') := by
  unfold V_lookAt_12 at w
  refine wk_b tt_285 3 (pc' := 253) (ls' := [(0, .inr (.inr (.ref 88))), (1, .inl (b1)), (2, .inl (b2)), (3, .inl (b3))]) (st' := [.inl (b2), .inl (b1), .inr (.inr (.ref 88))]) (σ' := σ) rfl ?_
  have jn2 : ∀ v3 : Int, v3 = (if b2 ≤ 0 then (0 : Int) else (if ¬ b3 = 0 then (0 : Int) else (1 : Int))) → sg_R v3 → wx z 2 285 265 [(2, .inl (b2))] [.inl (v3), .inl (b1), .inr (.inr (.ref 88))] σ (fun v σ' => v = none ∧ sg_F [101, 30088, 31088] σ σ' ∧ Q σ') := by
    intro v3 e5 r4
    have w := w v3 e5 r4
    obtain ⟨c6, w⟩ := w
    refine wk_b tt_285 3 (pc' := 268) (ls' := [(2, .inl (b2))]) (st' := [.inl ((b2 - 1)), .inl (v3), .inl (b1), .inr (.inr (.ref 88))]) (σ' := σ) rfl ?_
    refine wk_call tt_285 rfl rfl rfl rfl rfl tt_333 rfl (by decide) (w_typed z σ (b1) (v3) ((b2 - 1)) _ rb1 r4 c6 w) (fun u12 σ8 hq10 => ?_)
    obtain ⟨rfl, hF9, w⟩ := hq10
    have w := w hF9
    refine wk_b tt_285 1 (pc' := 419) (ls' := [(2, .inl (b2))]) (st' := []) (σ' := σ8) rfl ?_
    exact wk_rV tt_285 rfl rfl ⟨rfl, (sg_F_t (sg_F_r [101, 30088, 31088] σ) (sg_F_m (L := [101, 30088, 31088]) hF9 rfl)), w⟩
  refine wk_if tt_285 (tgt := 264) rfl rfl rb2 (fun (h1 : b2 ≤ 0) => ?_) (fun (h1 : 0 < b2) => ?_)
  ·
    clear w
    refine wk_b tt_285 1 (pc' := 265) (ls' := [(0, .inr (.inr (.ref 88))), (1, .inl (b1)), (2, .inl (b2)), (3, .inl (b3))]) (st' := [.inl (0), .inl (b1), .inr (.inr (.ref 88))]) (σ' := σ) rfl ?_
    exact wk_ls [(2, .inl (b2))] rfl ⟨rfl, trivial⟩ (jn2 (0) (by simp only [if_pos h1]) (by decide))
  ·
    clear w
    refine wk_b tt_285 1 (pc' := 257) (ls' := [(0, .inr (.inr (.ref 88))), (1, .inl (b1)), (2, .inl (b2)), (3, .inl (b3))]) (st' := [.inl (b3), .inl (b1), .inr (.inr (.ref 88))]) (σ' := σ) rfl ?_
    refine wk_if tt_285 (tgt := 264) rfl rfl rb3 (fun (h13 : ¬ b3 = 0) => ?_) (fun (h13 : b3 = 0) => ?_)
    ·
      refine wk_b tt_285 1 (pc' := 265) (ls' := [(0, .inr (.inr (.ref 88))), (1, .inl (b1)), (2, .inl (b2)), (3, .inl (b3))]) (st' := [.inl (0), .inl (b1), .inr (.inr (.ref 88))]) (σ' := σ) rfl ?_
      exact wk_ls [(2, .inl (b2))] rfl ⟨rfl, trivial⟩ (jn2 (0) (by simp only [if_neg (show ¬ (b2 ≤ 0) by omega), if_pos h13]) (by decide))
    ·
      refine wk_b tt_285 2 (pc' := 265) (ls' := [(0, .inr (.inr (.ref 88))), (1, .inl (b1)), (2, .inl (b2)), (3, .inl (b3))]) (st' := [.inl (1), .inl (b1), .inr (.inr (.ref 88))]) (σ' := σ) rfl ?_
      exact wk_ls [(2, .inl (b2))] rfl ⟨rfl, trivial⟩ (jn2 (1) (by simp only [if_neg (show ¬ (b2 ≤ 0) by omega), if_neg (show ¬ (¬ b3 = 0) by omega)]) (by decide))
-- NestedVectorsModel.lookCall
def V_lookCall (σ : sg_S) (a1 : Int) (Q : sg_S → Prop) : Prop := (0 ≤ a1 ∧ a1 < 210) ∧ V_defNamed σ ((sg_gl σ 95 (a1))) (fun q2 _ => sg_R q2 → ((0 ≤ q2 → (0 ≤ q2 ∧ q2 < 12) ∧ ∀ v12 : Int, v12 = (if ¬ (sg_g σ 96 (a1)) = (sg_g σ 106 (q2)) then (0 : Int) else (1 : Int)) → sg_R v12 → (∃ (I19 : Nat → Int → Int → Prop) (X21 : Int → Prop), (∃ n, I19 n (v12) (0)) ∧ (∀ (n30 : Nat) (v15 : Int) (v16 : Int), sg_R v15 → sg_R v16 → I19 n30 v15 v16 → (((sg_g σ 96 (a1)) ≤ v16 → X21 (v15)) ∧ (v16 < (sg_g σ 96 (a1)) → ((v15 = 0 → X21 (v15)) ∧ (¬ v15 = 0 → p_kidType σ (a1) (v16) ∧ sg_R (6 * q2) ∧ sg_R ((6 * q2) + v16) ∧ (0 ≤ ((6 * q2) + v16) ∧ ((6 * q2) + v16) < 72) ∧ ∀ v51 : Int, v51 = (if ¬ (v_kidType σ (a1) (v16)) = (sg_g σ 109 (((6 * q2) + v16))) then (0 : Int) else (1 : Int)) → sg_R v51 → sg_R (v16 + 1) ∧ (∃ m, m < n30 ∧ I19 m (v51) ((v16 + 1)))))))) ∧ (∀ (v15 : Int), sg_R v15 → X21 v15 → ∀ σ32, σ32 = (sg_w σ 102 (a1) (q2)) → (0 ≤ (sg_g σ 105 (q2)) ∧ (sg_g σ 105 (q2)) < 210) ∧ V_typed σ32 (a1) (v15) ((sg_g σ 101 ((sg_g σ 105 (q2))))) (fun σ37 => sg_F [101, 30088, 31088] σ32 σ37 → Q σ37)))) ∧ (q2 < 0 → V_wrong σ (2) ((sg_g σ 94 (a1))) (fun σ57 => sg_F [30088, 31088] σ σ57 → Q σ57))))
set_option maxHeartbeats 4000000 in
set_option maxRecDepth 8000 in
theorem w_lookCall (z : Value) (σ : sg_S) (a1 : Int) (Q : sg_S → Prop) (ra1 : sg_R a1) (w : V_lookCall σ a1 Q) : wx z 2 286 0 [(0, .inr (.inr (.ref 88))), (1, .inl (a1))] [] σ (fun v σ' => v = none ∧ sg_F [101, 102, 30088, 31088] σ σ' ∧ Q σ') := by
  unfold V_lookCall at w
  refine wk_b tt_286 4 (pc' := 6) (ls' := [(0, .inr (.inr (.ref 88))), (1, .inl (a1))]) (st' := [.inl (a1), .inr (.inr (.ref 95)), .inr (.inr (.ref 88))]) (σ' := σ) rfl ?_
  obtain ⟨c1, w⟩ := w
  refine wk_la tt_286 rfl rfl c1.1 c1.2 ra1 ?_
  refine wk_call tt_286 rfl rfl rfl rfl rfl tt_221 rfl (by decide) (w_defNamed z σ ((sg_gl σ 95 (a1))) _ (sg_Rgl _ _ _) w) (fun u7 σ3 hq5 => ?_)
  obtain ⟨q2, rfl, r6, rfl, w⟩ := hq5
  have w := w r6
  refine wk_b tt_286 2 (pc' := 12) (ls' := [(2, .inl (q2)), (0, .inr (.inr (.ref 88))), (1, .inl (a1))]) (st' := [.inl (q2)]) (σ' := σ) rfl ?_
  refine wk_if tt_286 (tgt := 27) rfl rfl r6 (fun (h8 : 0 ≤ q2) => ?_) (fun (h8 : q2 < 0) => ?_)
  ·
    have w := w.1 h8
    refine wk_b tt_286 3 (pc' := 32) (ls' := [(2, .inl (q2)), (0, .inr (.inr (.ref 88))), (1, .inl (a1))]) (st' := [.inl (a1), .inr (.inr (.ref 96))]) (σ' := σ) rfl ?_
    refine wk_ia tt_286 rfl rfl c1.1 c1.2 ra1 ?_
    refine wk_b tt_286 3 (pc' := 38) (ls' := [(2, .inl (q2)), (0, .inr (.inr (.ref 88))), (1, .inl (a1))]) (st' := [.inl (q2), .inr (.inr (.ref 106)), .inl ((sg_g σ 96 (a1)))]) (σ' := σ) rfl ?_
    obtain ⟨c9, w⟩ := w
    refine wk_ia tt_286 rfl rfl c9.1 c9.2 r6 ?_
    have jn11 : ∀ v12 : Int, v12 = (if ¬ (sg_g σ 96 (a1)) = (sg_g σ 106 (q2)) then (0 : Int) else (1 : Int)) → sg_R v12 → wx z 2 286 47 [(0, .inr (.inr (.ref 88))), (1, .inl (a1)), (2, .inl (q2))] [.inl (v12)] σ (fun v σ' => v = none ∧ sg_F [101, 102, 30088, 31088] σ σ' ∧ Q σ') := by
      intro v12 e14 r13
      have w := w v12 e14 r13
      refine wk_b tt_286 3 (pc' := 51) (ls' := [(4, .inl (0)), (3, .inl (v12)), (0, .inr (.inr (.ref 88))), (1, .inl (a1)), (2, .inl (q2))]) (st' := []) (σ' := σ) rfl ?_
      obtain ⟨I19, X21, ⟨μ20, w27⟩, w28, w29⟩ := w
      have ex31 : ∀ (v15 : Int), sg_R v15 → X21 v15 → wx z 2 286 100 [(0, .inr (.inr (.ref 88))), (1, .inl (a1)), (2, .inl (q2)), (3, .inl (v15))] [] σ (fun v σ' => v = none ∧ sg_F [101, 102, 30088, 31088] σ σ' ∧ Q σ') := by
        intro v15 r22 w
        have w := w29 v15 r22 w
        refine wk_b tt_286 4 (pc' := 106) (ls' := [(0, .inr (.inr (.ref 88))), (1, .inl (a1)), (2, .inl (q2)), (3, .inl (v15))]) (st' := [.inl (q2), .inl (a1), .inr (.inr (.ref 102))]) (σ' := σ) rfl ?_
        refine wk_is tt_286 rfl rfl c1.1 c1.2 ra1 ?_
        generalize hs33 : (sg_w σ 102 (a1) (q2)) = σ32
        have w := w σ32 hs33.symm
        have hF34 : sg_F [102] σ σ32 := by rw [← hs33]; exact sg_F_w (sg_F_r _ _) rfl _
        refine wk_b tt_286 8 (pc' := 119) (ls' := [(0, .inr (.inr (.ref 88))), (1, .inl (a1)), (2, .inl (q2)), (3, .inl (v15))]) (st' := [.inl (q2), .inr (.inr (.ref 105)), .inr (.inr (.ref 101)), .inl (v15), .inl (a1), .inr (.inr (.ref 88))]) (σ' := σ32) rfl ?_
        refine wk_ia tt_286 rfl rfl c9.1 c9.2 r6 ?_
        rw [show (sg_g σ32 105 (q2)) = (sg_g σ 105 (q2)) from by rw [sg_F_ga hF34 rfl]]
        obtain ⟨c35, w⟩ := w
        refine wk_ia tt_286 rfl rfl c35.1 c35.2 (sg_Rg _ _ _) ?_
        rw [show (sg_g σ32 101 ((sg_g σ 105 (q2)))) = (sg_g σ 101 ((sg_g σ 105 (q2)))) from by rw [sg_F_ga hF34 rfl]]
        refine wk_call tt_286 rfl rfl rfl rfl rfl tt_333 rfl (by decide) (w_typed z σ32 (a1) (v15) ((sg_g σ 101 ((sg_g σ 105 (q2))))) _ ra1 r22 (sg_Rg _ _ _) w) (fun u41 σ37 hq39 => ?_)
        obtain ⟨rfl, hF38, w⟩ := hq39
        have w := w hF38
        exact wk_rV tt_286 rfl rfl ⟨rfl, (sg_F_t (sg_F_t (sg_F_r [101, 102, 30088, 31088] σ) (sg_F_m (L := [101, 102, 30088, 31088]) hF34 rfl)) (sg_F_m (L := [101, 102, 30088, 31088]) hF38 rfl)), w⟩
      have lp26 : ∀ (n30 : Nat) (v15 : Int) (v16 : Int), sg_R v15 → sg_R v16 → I19 n30 v15 v16 → wx z 2 286 51 [(0, .inr (.inr (.ref 88))), (1, .inl (a1)), (2, .inl (q2)), (3, .inl (v15)), (4, .inl (v16))] [] σ (fun v σ' => v = none ∧ sg_F [101, 102, 30088, 31088] σ σ' ∧ Q σ') := by
        intro n30
        induction n30 using Nat.strongRecOn with
        | _ n30 ih24 =>
          intro v15 v16 r22 r23 w
          have w := w28 n30 v15 v16 r22 r23 w
          refine wk_b tt_286 4 (pc' := 58) (ls' := [(0, .inr (.inr (.ref 88))), (1, .inl (a1)), (2, .inl (q2)), (3, .inl (v15)), (4, .inl (v16))]) (st' := [.inl (a1), .inr (.inr (.ref 96)), .inl (v16)]) (σ' := σ) rfl ?_
          refine wk_ia tt_286 rfl rfl c1.1 c1.2 ra1 ?_
          refine wk_if2 tt_286 (tgt := 100) rfl rfl r23 (sg_Rg _ _ _) (fun (h42 : (sg_g σ 96 (a1)) ≤ v16) => ?_) (fun (h42 : v16 < (sg_g σ 96 (a1))) => ?_)
          ·
            have w := w.1 h42
            exact wk_ls [(0, .inr (.inr (.ref 88))), (1, .inl (a1)), (2, .inl (q2)), (3, .inl (v15))] rfl ⟨rfl, rfl, rfl, rfl, trivial⟩ (ex31 (v15)  r22  w)
          ·
            have w := w.2 h42
            refine wk_b tt_286 1 (pc' := 63) (ls' := [(0, .inr (.inr (.ref 88))), (1, .inl (a1)), (2, .inl (q2)), (3, .inl (v15)), (4, .inl (v16))]) (st' := [.inl (v15)]) (σ' := σ) rfl ?_
            refine wk_if tt_286 (tgt := 100) rfl rfl r22 (fun (h43 : v15 = 0) => ?_) (fun (h43 : ¬ v15 = 0) => ?_)
            ·
              have w := w.1 h43
              exact wk_ls [(0, .inr (.inr (.ref 88))), (1, .inl (a1)), (2, .inl (q2)), (3, .inl (v15))] rfl ⟨rfl, rfl, rfl, rfl, trivial⟩ (ex31 (v15)  r22  w)
            ·
              have w := w.2 h43
              refine wk_b tt_286 3 (pc' := 70) (ls' := [(0, .inr (.inr (.ref 88))), (1, .inl (a1)), (2, .inl (q2)), (3, .inl (v15)), (4, .inl (v16))]) (st' := [.inl (v16), .inl (a1), .inr (.inr (.ref 88))]) (σ' := σ) rfl ?_
              obtain ⟨c44, w⟩ := w
              refine wk_callp tt_286 rfl rfl rfl rfl rfl tt_273 rfl (by decide) (w_kidType z σ (a1) (v16) ra1 r23 c44) ?_
              have r45 := vr_kidType σ  (a1) (v16) ra1 r23 c44
              obtain ⟨c46, w⟩ := w
              obtain ⟨c47, w⟩ := w
              refine wk_b tt_286 7 (pc' := 84) (ls' := [(0, .inr (.inr (.ref 88))), (1, .inl (a1)), (2, .inl (q2)), (3, .inl (v15)), (4, .inl (v16))]) (st' := [.inl (((6 * q2) + v16)), .inr (.inr (.ref 109)), .inl ((v_kidType σ (a1) (v16)))]) (σ' := σ) rfl ?_
              obtain ⟨c48, w⟩ := w
              refine wk_ia tt_286 rfl rfl c48.1 c48.2 c47 ?_
              have jn50 : ∀ v51 : Int, v51 = (if ¬ (v_kidType σ (a1) (v16)) = (sg_g σ 109 (((6 * q2) + v16))) then (0 : Int) else (1 : Int)) → sg_R v51 → wx z 2 286 93 [(0, .inr (.inr (.ref 88))), (1, .inl (a1)), (2, .inl (q2)), (4, .inl (v16))] [.inl (v51)] σ (fun v σ' => v = none ∧ sg_F [101, 102, 30088, 31088] σ σ' ∧ Q σ') := by
                intro v51 e53 r52
                have w := w v51 e53 r52
                obtain ⟨c54, w⟩ := w
                refine wk_b tt_286 3 (pc' := 51) (ls' := [(4, .inl ((v16 + 1))), (3, .inl (v51)), (0, .inr (.inr (.ref 88))), (1, .inl (a1)), (2, .inl (q2))]) (st' := []) (σ' := σ) rfl ?_
                obtain ⟨m55, hm55, w⟩ := w
                exact wk_ls [(0, .inr (.inr (.ref 88))), (1, .inl (a1)), (2, .inl (q2)), (3, .inl (v51)), (4, .inl ((v16 + 1)))] rfl ⟨rfl, rfl, rfl, rfl, rfl, trivial⟩ (ih24 m55 hm55 (v51) ((v16 + 1))  r52 c54  w)
              refine wk_if2 tt_286 (tgt := 92) rfl rfl r45 (sg_Rg _ _ _) (fun (h49 : ¬ (v_kidType σ (a1) (v16)) = (sg_g σ 109 (((6 * q2) + v16)))) => ?_) (fun (h49 : (v_kidType σ (a1) (v16)) = (sg_g σ 109 (((6 * q2) + v16)))) => ?_)
              ·
                clear w
                refine wk_b tt_286 1 (pc' := 93) (ls' := [(0, .inr (.inr (.ref 88))), (1, .inl (a1)), (2, .inl (q2)), (3, .inl (v15)), (4, .inl (v16))]) (st' := [.inl (0)]) (σ' := σ) rfl ?_
                exact wk_ls [(0, .inr (.inr (.ref 88))), (1, .inl (a1)), (2, .inl (q2)), (4, .inl (v16))] rfl ⟨rfl, rfl, rfl, rfl, trivial⟩ (jn50 (0) (by simp only [if_pos h49]) (by decide))
              ·
                clear w
                refine wk_b tt_286 2 (pc' := 93) (ls' := [(0, .inr (.inr (.ref 88))), (1, .inl (a1)), (2, .inl (q2)), (3, .inl (v15)), (4, .inl (v16))]) (st' := [.inl (1)]) (σ' := σ) rfl ?_
                exact wk_ls [(0, .inr (.inr (.ref 88))), (1, .inl (a1)), (2, .inl (q2)), (4, .inl (v16))] rfl ⟨rfl, rfl, rfl, rfl, trivial⟩ (jn50 (1) (by simp only [if_neg (show ¬ (¬ (v_kidType σ (a1) (v16)) = (sg_g σ 109 (((6 * q2) + v16)))) by omega)]) (by decide))
      exact wk_ls [(0, .inr (.inr (.ref 88))), (1, .inl (a1)), (2, .inl (q2)), (3, .inl (v12)), (4, .inl (0))] rfl ⟨rfl, rfl, rfl, rfl, rfl, trivial⟩ (lp26 μ20 (v12) (0)  r13 (by decide)  w27)
    refine wk_if2 tt_286 (tgt := 46) rfl rfl (sg_Rg _ _ _) (sg_Rg _ _ _) (fun (h10 : ¬ (sg_g σ 96 (a1)) = (sg_g σ 106 (q2))) => ?_) (fun (h10 : (sg_g σ 96 (a1)) = (sg_g σ 106 (q2))) => ?_)
    ·
      clear w
      refine wk_b tt_286 1 (pc' := 47) (ls' := [(2, .inl (q2)), (0, .inr (.inr (.ref 88))), (1, .inl (a1))]) (st' := [.inl (0)]) (σ' := σ) rfl ?_
      exact wk_ls [(0, .inr (.inr (.ref 88))), (1, .inl (a1)), (2, .inl (q2))] rfl ⟨rfl, rfl, rfl, trivial⟩ (jn11 (0) (by simp only [if_pos h10]) (by decide))
    ·
      clear w
      refine wk_b tt_286 2 (pc' := 47) (ls' := [(2, .inl (q2)), (0, .inr (.inr (.ref 88))), (1, .inl (a1))]) (st' := [.inl (1)]) (σ' := σ) rfl ?_
      exact wk_ls [(0, .inr (.inr (.ref 88))), (1, .inl (a1)), (2, .inl (q2))] rfl ⟨rfl, rfl, rfl, trivial⟩ (jn11 (1) (by simp only [if_neg (show ¬ (¬ (sg_g σ 96 (a1)) = (sg_g σ 106 (q2))) by omega)]) (by decide))
  ·
    have w := w.2 h8
    refine wk_b tt_286 5 (pc' := 22) (ls' := [(2, .inl (q2)), (0, .inr (.inr (.ref 88))), (1, .inl (a1))]) (st' := [.inl (a1), .inr (.inr (.ref 94)), .inl (2), .inr (.inr (.ref 88))]) (σ' := σ) rfl ?_
    refine wk_ia tt_286 rfl rfl c1.1 c1.2 ra1 ?_
    refine wk_call tt_286 rfl rfl rfl rfl rfl tt_336 rfl (by decide) (w_wrong z σ (2) ((sg_g σ 94 (a1))) _ (by decide) (sg_Rg _ _ _) w) (fun u61 σ57 hq59 => ?_)
    obtain ⟨rfl, hF58, w⟩ := hq59
    have w := w hF58
    exact wk_rV tt_286 rfl rfl ⟨rfl, (sg_F_t (sg_F_r [101, 102, 30088, 31088] σ) (sg_F_m (L := [101, 102, 30088, 31088]) hF58 rfl)), w⟩
