/-! Conditions of the reference's methods, by program (9). -/
-- NestedVectorsModel.clearInside
def V_clearInside (σ : sg_S) (Q : sg_S → Prop) : Prop := ∀ σ1, σ1 = (sg_w σ 88 46 (0)) → (∃ (I7 : Nat → Int → sg_S → Prop) (X9 : sg_S → Prop), (∃ n, I7 n (0) σ1) ∧ (∀ (n17 : Nat) (v4 : Int) (σ5 : sg_S), sg_R v4 → sg_F [120] σ1 σ5 → I7 n17 v4 σ5 → (((sg_g σ 88 8) ≤ v4 → X9 σ5) ∧ (v4 < (sg_g σ 88 8) → (0 ≤ v4 ∧ v4 < 210) ∧ ∀ σ21, σ21 = (sg_w σ5 120 (v4) (0)) → sg_R (v4 + 1) ∧ (∃ m, m < n17 ∧ I7 m ((v4 + 1)) σ21)))) ∧ (∀ (σ5 : sg_S), sg_F [120] σ1 σ5 → X9 σ5 → Q σ5))
set_option maxHeartbeats 4000000 in
set_option maxRecDepth 8000 in
theorem w_clearInside (z : Value) (σ : sg_S) (Q : sg_S → Prop)  (w : V_clearInside σ  Q) : wx z 0 218 0 [(0, .inr (.inr (.ref 88)))] [] σ (fun v σ' => v = none ∧ sg_F [120, 47088] σ σ' ∧ Q σ') := by
  unfold V_clearInside at w
  refine wk_b tt_218 3 (pc' := 5) (ls' := [(0, .inr (.inr (.ref 88)))]) (st' := []) (σ' := (sg_w σ 88 46 (0))) rfl ?_
  generalize hs2 : (sg_w σ 88 46 (0)) = σ1
  have w := w σ1 hs2.symm
  have hF3 : sg_F [47088] σ σ1 := by rw [← hs2]; exact sg_F_w (sg_F_r _ _) rfl _
  refine wk_b tt_218 2 (pc' := 7) (ls' := [(1, .inl (0)), (0, .inr (.inr (.ref 88)))]) (st' := []) (σ' := σ1) rfl ?_
  obtain ⟨I7, X9, ⟨μ8, w14⟩, w15, w16⟩ := w
  have ex18 : ∀ (σ5 : sg_S), sg_F [120] σ1 σ5 → X9 σ5 → wx z 0 218 28 [] [] σ5 (fun v σ' => v = none ∧ sg_F [120, 47088] σ σ' ∧ Q σ') := by
    intro σ5 hF6 w
    have w := w16 σ5 hF6 w
    exact wk_rV tt_218 rfl rfl ⟨rfl, (sg_F_t (sg_F_t (sg_F_r [120, 47088] σ) (sg_F_m (L := [120, 47088]) hF3 rfl)) (sg_F_m (L := [120, 47088]) hF6 rfl)), w⟩
  have lp13 : ∀ (n17 : Nat) (v4 : Int) (σ5 : sg_S), sg_R v4 → sg_F [120] σ1 σ5 → I7 n17 v4 σ5 → wx z 0 218 7 [(0, .inr (.inr (.ref 88))), (1, .inl (v4))] [] σ5 (fun v σ' => v = none ∧ sg_F [120, 47088] σ σ' ∧ Q σ') := by
    intro n17
    induction n17 using Nat.strongRecOn with
    | _ n17 ih11 =>
      intro v4 σ5 r10 hF6 w
      have w := w15 n17 v4 σ5 r10 hF6 w
      refine wk_b tt_218 3 (pc' := 12) (ls' := [(0, .inr (.inr (.ref 88))), (1, .inl (v4))]) (st' := [.inl ((sg_g σ5 88 8)), .inl (v4)]) (σ' := σ5) rfl ?_
      rw [show (sg_g σ5 88 8) = (sg_g σ 88 8) from by rw [sg_F_ga hF6 rfl, sg_F_g hF3 rfl]]
      refine wk_if2 tt_218 (tgt := 28) rfl rfl r10 (sg_Rg _ _ _) (fun (h19 : (sg_g σ 88 8) ≤ v4) => ?_) (fun (h19 : v4 < (sg_g σ 88 8)) => ?_)
      ·
        have w := w.1 h19
        exact wk_ls [] rfl trivial (ex18  σ5  (sg_F_t (sg_F_r [120] σ1) (sg_F_m (L := [120]) hF6 rfl)) w)
      ·
        have w := w.2 h19
        refine wk_b tt_218 4 (pc' := 21) (ls' := [(0, .inr (.inr (.ref 88))), (1, .inl (v4))]) (st' := [.inl (0), .inl (v4), .inr (.inr (.ref 120))]) (σ' := σ5) rfl ?_
        obtain ⟨c20, w⟩ := w
        refine wk_bs (Or.inr rfl) tt_218 rfl rfl c20.1 c20.2 r10 ?_
        rw [show (am_nb 3 (sg_i (0))).toInt = 0 from by decide]
        generalize hs22 : (sg_w σ5 120 (v4) (0)) = σ21
        have w := w σ21 hs22.symm
        have hF23 : sg_F [120] σ5 σ21 := by rw [← hs22]; exact sg_F_w (sg_F_r _ _) rfl _
        obtain ⟨c24, w⟩ := w
        refine wk_b tt_218 2 (pc' := 7) (ls' := [(1, .inl ((v4 + 1))), (0, .inr (.inr (.ref 88)))]) (st' := []) (σ' := σ21) rfl ?_
        obtain ⟨m25, hm25, w⟩ := w
        exact wk_ls [(0, .inr (.inr (.ref 88))), (1, .inl ((v4 + 1)))] rfl ⟨rfl, rfl, trivial⟩ (ih11 m25 hm25 ((v4 + 1)) σ21 c24 (sg_F_t (sg_F_t (sg_F_r [120] σ1) (sg_F_m (L := [120]) hF6 rfl)) (sg_F_m (L := [120]) hF23 rfl)) w)
  exact wk_ls [(0, .inr (.inr (.ref 88))), (1, .inl (0))] rfl ⟨rfl, rfl, trivial⟩ (lp13 μ8 (0) σ1 (by decide) (sg_F_r _ _) w14)
-- NestedVectorsModel.cut
def V_cut (σ : sg_S) (a1 : Int) (Q : Int → sg_S → Prop) : Prop := ∀ σ1, σ1 = (sg_w σ 88 0 (0)) → ((¬ (v_in (a1) (0) ((sg_g σ 88 2))) = 0 → sg_R ((sg_g σ 88 2) - a1) ∧ ∀ σ6, σ6 = (sg_w σ1 88 2 (a1)) → Q (((sg_g σ 88 2) - a1)) σ6) ∧ ((v_in (a1) (0) ((sg_g σ 88 2))) = 0 → Q ((-2)) σ1))
set_option maxHeartbeats 4000000 in
set_option maxRecDepth 8000 in
theorem w_cut (z : Value) (σ : sg_S) (a1 : Int) (Q : Int → sg_S → Prop) (ra1 : sg_R a1) (w : V_cut σ a1 Q) : wx z 1 219 0 [(0, .inr (.inr (.ref 88))), (1, .inl (a1))] [] σ (fun v σ' => ∃ q, v = some (.inl q) ∧ sg_R q ∧ sg_F [1088, 3088] σ σ' ∧ Q q σ') := by
  unfold V_cut at w
  refine wk_b tt_219 3 (pc' := 5) (ls' := [(0, .inr (.inr (.ref 88))), (1, .inl (a1))]) (st' := []) (σ' := (sg_w σ 88 0 (0))) rfl ?_
  generalize hs2 : (sg_w σ 88 0 (0)) = σ1
  have w := w σ1 hs2.symm
  have hF3 : sg_F [1088] σ σ1 := by rw [← hs2]; exact sg_F_w (sg_F_r _ _) rfl _
  refine wk_b tt_219 6 (pc' := 13) (ls' := [(0, .inr (.inr (.ref 88))), (1, .inl (a1))]) (st' := [.inr (.inl ((sg_n ((sg_g σ1 88 2))))), .inr (.inl (0)), .inr (.inl ((sg_n (a1))))]) (σ' := σ1) rfl ?_
  rw [show (sg_n (a1)) = a1 from by rw [sg_id ra1]]
  rw [show (sg_g σ1 88 2) = (sg_g σ 88 2) from by rw [sg_F_g hF3 rfl]]
  rw [show (sg_n ((sg_g σ 88 2))) = (sg_g σ 88 2) from by rw [sg_id (sg_Rg _ _ _)]]
  refine wk_callp tt_219 rfl rfl rfl rfl rfl tt_258 rfl (by decide) (w_in z σ1 (a1) (0) ((sg_g σ 88 2)) (sg_Rgl2 ra1) (by decide) (sg_Rgl2 (sg_Rg _ _ _)) ) ?_
  refine wk_if tt_219 (tgt := 22) rfl rfl (sg_Rz (vz_in ..)) (fun (h4 : ¬ (v_in (a1) (0) ((sg_g σ 88 2))) = 0) => ?_) (fun (h4 : (v_in (a1) (0) ((sg_g σ 88 2))) = 0) => ?_)
  ·
    have w := w.1 h4
    obtain ⟨c5, w⟩ := w
    refine wk_b tt_219 8 (pc' := 34) (ls' := [(2, .inl (((sg_g σ1 88 2) - a1))), (0, .inr (.inr (.ref 88))), (1, .inl (a1))]) (st' := []) (σ' := (sg_w σ1 88 2 (a1))) rfl ?_
    rw [show (sg_g σ1 88 2) = (sg_g σ 88 2) from by rw [sg_F_g hF3 rfl]]
    generalize hs7 : (sg_w σ1 88 2 (a1)) = σ6
    have w := w σ6 hs7.symm
    have hF8 : sg_F [3088] σ1 σ6 := by rw [← hs7]; exact sg_F_w (sg_F_r _ _) rfl _
    refine wk_b tt_219 1 (pc' := 35) (ls' := [(2, .inl (((sg_g σ 88 2) - a1))), (0, .inr (.inr (.ref 88))), (1, .inl (a1))]) (st' := [.inl (((sg_g σ 88 2) - a1))]) (σ' := σ6) rfl ?_
    exact wk_rI tt_219 rfl rfl ⟨_, rfl, c5, (sg_F_t (sg_F_t (sg_F_r [1088, 3088] σ) (sg_F_m (L := [1088, 3088]) hF3 rfl)) (sg_F_m (L := [1088, 3088]) hF8 rfl)), w⟩
  ·
    have w := w.2 h4
    refine wk_b tt_219 1 (pc' := 21) (ls' := [(0, .inr (.inr (.ref 88))), (1, .inl (a1))]) (st' := [.inl ((-2))]) (σ' := σ1) rfl ?_
    exact wk_rI tt_219 rfl rfl ⟨_, rfl, (by decide), (sg_F_t (sg_F_r [1088, 3088] σ) (sg_F_m (L := [1088, 3088]) hF3 rfl)), w⟩
-- NestedVectorsModel.isDigit
def v_isDigit  (a0 : Int) : Int := (v_in (a0) (48) (57))
theorem vz_isDigit  {a0 : Int} : v_isDigit a0 = 0 ∨ v_isDigit a0 = 1 := by
  unfold v_isDigit
  exact vz_in ..
set_option maxHeartbeats 4000000 in
set_option maxRecDepth 8000 in
theorem w_isDigit (z : Value) (σ : sg_S) (a0 : Int) (ra0 : sg_R a0) : wx z 1 261 0 [(0, .inl (a0))] [] σ (fun v σ' => v = some (.inl (v_isDigit a0)) ∧ σ' = σ) := by
  refine wk_b tt_261 4 (pc' := 8) (ls' := [(0, .inl (a0))]) (st' := [.inr (.inl (57)), .inr (.inl (48)), .inr (.inl ((sg_n (a0))))]) (σ' := σ) rfl ?_
  rw [show (sg_n (a0)) = a0 from by rw [sg_id ra0]]
  refine wk_callp tt_261 rfl rfl rfl rfl rfl tt_258 rfl (by decide) (w_in z σ (a0) (48) (57) (sg_Rgl2 ra0) (by decide) (by decide) ) ?_
  exact wk_rZ tt_261 rfl rfl (vz_in ..) ⟨by rw [v_isDigit], rfl⟩
-- NestedVectorsModel.isLetter
def v_isLetter  (a0 : Int) : Int := (v_in (a0) (97) (122))
theorem vz_isLetter  {a0 : Int} : v_isLetter a0 = 0 ∨ v_isLetter a0 = 1 := by
  unfold v_isLetter
  exact vz_in ..
set_option maxHeartbeats 4000000 in
set_option maxRecDepth 8000 in
theorem w_isLetter (z : Value) (σ : sg_S) (a0 : Int) (ra0 : sg_R a0) : wx z 1 263 0 [(0, .inl (a0))] [] σ (fun v σ' => v = some (.inl (v_isLetter a0)) ∧ σ' = σ) := by
  refine wk_b tt_263 4 (pc' := 8) (ls' := [(0, .inl (a0))]) (st' := [.inr (.inl (122)), .inr (.inl (97)), .inr (.inl ((sg_n (a0))))]) (σ' := σ) rfl ?_
  rw [show (sg_n (a0)) = a0 from by rw [sg_id ra0]]
  refine wk_callp tt_263 rfl rfl rfl rfl rfl tt_258 rfl (by decide) (w_in z σ (a0) (97) (122) (sg_Rgl2 ra0) (by decide) (by decide) ) ?_
  exact wk_rZ tt_263 rfl rfl (vz_in ..) ⟨by rw [v_isLetter], rfl⟩
-- NestedVectorsModel.isSign
def v_isSign  (a0 : Int) : Int := (if a0 = 40 then (1 : Int) else (if a0 = 41 then (1 : Int) else (if a0 = 123 then (1 : Int) else (if a0 = 125 then (1 : Int) else (if a0 = 91 then (1 : Int) else (if a0 = 93 then (1 : Int) else (if a0 = 44 then (1 : Int) else (if a0 = 58 then (1 : Int) else (if a0 = 59 then (1 : Int) else (if a0 = 124 then (1 : Int) else (if a0 = 61 then (1 : Int) else (if a0 = 60 then (1 : Int) else (if a0 = 43 then (1 : Int) else (if a0 = 45 then (1 : Int) else (if a0 = 42 then (1 : Int) else (if a0 = 47 then (1 : Int) else (if a0 = 37 then (1 : Int) else (if ¬ a0 = 35 then (0 : Int) else (1 : Int)))))))))))))))))))
theorem vz_isSign  {a0 : Int} : v_isSign a0 = 0 ∨ v_isSign a0 = 1 := by
  unfold v_isSign
  by_cases h : a0 = 40
  · rw [if_pos h]
    exact Or.inr rfl
  · rw [if_neg h]
    by_cases h : a0 = 41
    · rw [if_pos h]
      exact Or.inr rfl
    · rw [if_neg h]
      by_cases h : a0 = 123
      · rw [if_pos h]
        exact Or.inr rfl
      · rw [if_neg h]
        by_cases h : a0 = 125
        · rw [if_pos h]
          exact Or.inr rfl
        · rw [if_neg h]
          by_cases h : a0 = 91
          · rw [if_pos h]
            exact Or.inr rfl
          · rw [if_neg h]
            by_cases h : a0 = 93
            · rw [if_pos h]
              exact Or.inr rfl
            · rw [if_neg h]
              by_cases h : a0 = 44
              · rw [if_pos h]
                exact Or.inr rfl
              · rw [if_neg h]
                by_cases h : a0 = 58
                · rw [if_pos h]
                  exact Or.inr rfl
                · rw [if_neg h]
                  by_cases h : a0 = 59
                  · rw [if_pos h]
                    exact Or.inr rfl
                  · rw [if_neg h]
                    by_cases h : a0 = 124
                    · rw [if_pos h]
                      exact Or.inr rfl
                    · rw [if_neg h]
                      by_cases h : a0 = 61
                      · rw [if_pos h]
                        exact Or.inr rfl
                      · rw [if_neg h]
                        by_cases h : a0 = 60
                        · rw [if_pos h]
                          exact Or.inr rfl
                        · rw [if_neg h]
                          by_cases h : a0 = 43
                          · rw [if_pos h]
                            exact Or.inr rfl
                          · rw [if_neg h]
                            by_cases h : a0 = 45
                            · rw [if_pos h]
                              exact Or.inr rfl
                            · rw [if_neg h]
                              by_cases h : a0 = 42
                              · rw [if_pos h]
                                exact Or.inr rfl
                              · rw [if_neg h]
                                by_cases h : a0 = 47
                                · rw [if_pos h]
                                  exact Or.inr rfl
                                · rw [if_neg h]
                                  by_cases h : a0 = 37
                                  · rw [if_pos h]
                                    exact Or.inr rfl
                                  · rw [if_neg h]
                                    by_cases h : ¬ a0 = 35
                                    · rw [if_pos h]
                                      exact Or.inl rfl
                                    · rw [if_neg h]
                                      exact Or.inr rfl
set_option maxHeartbeats 4000000 in
set_option maxRecDepth 8000 in
theorem w_isSign (z : Value) (σ : sg_S) (a0 : Int) (ra0 : sg_R a0) : wx z 0 267 0 [(0, .inl (a0))] [] σ (fun v σ' => v = some (.inl (v_isSign a0)) ∧ σ' = σ) := by
  refine wk_b tt_267 2 (pc' := 3) (ls' := [(0, .inl (a0))]) (st' := [.inl (40), .inl (a0)]) (σ' := σ) rfl ?_
  refine wk_if2 tt_267 (tgt := 108) rfl rfl ra0 (by decide) (fun (h1 : a0 = 40) => ?_) (fun (h1 : ¬ a0 = 40) => ?_)
  ·
    refine wk_b tt_267 2 (pc' := 113) (ls' := [(0, .inl (a0))]) (st' := [.inl (1)]) (σ' := σ) rfl ?_
    exact wk_rZ tt_267 rfl rfl (by decide) ⟨by rw [v_isSign, if_pos h1], rfl⟩
  ·
    refine wk_b tt_267 2 (pc' := 9) (ls' := [(0, .inl (a0))]) (st' := [.inl (41), .inl (a0)]) (σ' := σ) rfl ?_
    refine wk_if2 tt_267 (tgt := 108) rfl rfl ra0 (by decide) (fun (h2 : a0 = 41) => ?_) (fun (h2 : ¬ a0 = 41) => ?_)
    ·
      refine wk_b tt_267 2 (pc' := 113) (ls' := [(0, .inl (a0))]) (st' := [.inl (1)]) (σ' := σ) rfl ?_
      exact wk_rZ tt_267 rfl rfl (by decide) ⟨by rw [v_isSign, if_neg (show ¬ (a0 = 40) by omega), if_pos h2], rfl⟩
    ·
      refine wk_b tt_267 2 (pc' := 15) (ls' := [(0, .inl (a0))]) (st' := [.inl (123), .inl (a0)]) (σ' := σ) rfl ?_
      refine wk_if2 tt_267 (tgt := 108) rfl rfl ra0 (by decide) (fun (h3 : a0 = 123) => ?_) (fun (h3 : ¬ a0 = 123) => ?_)
      ·
        refine wk_b tt_267 2 (pc' := 113) (ls' := [(0, .inl (a0))]) (st' := [.inl (1)]) (σ' := σ) rfl ?_
        exact wk_rZ tt_267 rfl rfl (by decide) ⟨by rw [v_isSign, if_neg (show ¬ (a0 = 40) by omega), if_neg (show ¬ (a0 = 41) by omega), if_pos h3], rfl⟩
      ·
        refine wk_b tt_267 2 (pc' := 21) (ls' := [(0, .inl (a0))]) (st' := [.inl (125), .inl (a0)]) (σ' := σ) rfl ?_
        refine wk_if2 tt_267 (tgt := 108) rfl rfl ra0 (by decide) (fun (h4 : a0 = 125) => ?_) (fun (h4 : ¬ a0 = 125) => ?_)
        ·
          refine wk_b tt_267 2 (pc' := 113) (ls' := [(0, .inl (a0))]) (st' := [.inl (1)]) (σ' := σ) rfl ?_
          exact wk_rZ tt_267 rfl rfl (by decide) ⟨by rw [v_isSign, if_neg (show ¬ (a0 = 40) by omega), if_neg (show ¬ (a0 = 41) by omega), if_neg (show ¬ (a0 = 123) by omega), if_pos h4], rfl⟩
        ·
          refine wk_b tt_267 2 (pc' := 27) (ls' := [(0, .inl (a0))]) (st' := [.inl (91), .inl (a0)]) (σ' := σ) rfl ?_
          refine wk_if2 tt_267 (tgt := 108) rfl rfl ra0 (by decide) (fun (h5 : a0 = 91) => ?_) (fun (h5 : ¬ a0 = 91) => ?_)
          ·
            refine wk_b tt_267 2 (pc' := 113) (ls' := [(0, .inl (a0))]) (st' := [.inl (1)]) (σ' := σ) rfl ?_
            exact wk_rZ tt_267 rfl rfl (by decide) ⟨by rw [v_isSign, if_neg (show ¬ (a0 = 40) by omega), if_neg (show ¬ (a0 = 41) by omega), if_neg (show ¬ (a0 = 123) by omega), if_neg (show ¬ (a0 = 125) by omega), if_pos h5], rfl⟩
          ·
            refine wk_b tt_267 2 (pc' := 33) (ls' := [(0, .inl (a0))]) (st' := [.inl (93), .inl (a0)]) (σ' := σ) rfl ?_
            refine wk_if2 tt_267 (tgt := 108) rfl rfl ra0 (by decide) (fun (h6 : a0 = 93) => ?_) (fun (h6 : ¬ a0 = 93) => ?_)
            ·
              refine wk_b tt_267 2 (pc' := 113) (ls' := [(0, .inl (a0))]) (st' := [.inl (1)]) (σ' := σ) rfl ?_
              exact wk_rZ tt_267 rfl rfl (by decide) ⟨by rw [v_isSign, if_neg (show ¬ (a0 = 40) by omega), if_neg (show ¬ (a0 = 41) by omega), if_neg (show ¬ (a0 = 123) by omega), if_neg (show ¬ (a0 = 125) by omega), if_neg (show ¬ (a0 = 91) by omega), if_pos h6], rfl⟩
            ·
              refine wk_b tt_267 2 (pc' := 39) (ls' := [(0, .inl (a0))]) (st' := [.inl (44), .inl (a0)]) (σ' := σ) rfl ?_
              refine wk_if2 tt_267 (tgt := 108) rfl rfl ra0 (by decide) (fun (h7 : a0 = 44) => ?_) (fun (h7 : ¬ a0 = 44) => ?_)
              ·
                refine wk_b tt_267 2 (pc' := 113) (ls' := [(0, .inl (a0))]) (st' := [.inl (1)]) (σ' := σ) rfl ?_
                exact wk_rZ tt_267 rfl rfl (by decide) ⟨by rw [v_isSign, if_neg (show ¬ (a0 = 40) by omega), if_neg (show ¬ (a0 = 41) by omega), if_neg (show ¬ (a0 = 123) by omega), if_neg (show ¬ (a0 = 125) by omega), if_neg (show ¬ (a0 = 91) by omega), if_neg (show ¬ (a0 = 93) by omega), if_pos h7], rfl⟩
              ·
                refine wk_b tt_267 2 (pc' := 45) (ls' := [(0, .inl (a0))]) (st' := [.inl (58), .inl (a0)]) (σ' := σ) rfl ?_
                refine wk_if2 tt_267 (tgt := 108) rfl rfl ra0 (by decide) (fun (h8 : a0 = 58) => ?_) (fun (h8 : ¬ a0 = 58) => ?_)
                ·
                  refine wk_b tt_267 2 (pc' := 113) (ls' := [(0, .inl (a0))]) (st' := [.inl (1)]) (σ' := σ) rfl ?_
                  exact wk_rZ tt_267 rfl rfl (by decide) ⟨by rw [v_isSign, if_neg (show ¬ (a0 = 40) by omega), if_neg (show ¬ (a0 = 41) by omega), if_neg (show ¬ (a0 = 123) by omega), if_neg (show ¬ (a0 = 125) by omega), if_neg (show ¬ (a0 = 91) by omega), if_neg (show ¬ (a0 = 93) by omega), if_neg (show ¬ (a0 = 44) by omega), if_pos h8], rfl⟩
                ·
                  refine wk_b tt_267 2 (pc' := 51) (ls' := [(0, .inl (a0))]) (st' := [.inl (59), .inl (a0)]) (σ' := σ) rfl ?_
                  refine wk_if2 tt_267 (tgt := 108) rfl rfl ra0 (by decide) (fun (h9 : a0 = 59) => ?_) (fun (h9 : ¬ a0 = 59) => ?_)
                  ·
                    refine wk_b tt_267 2 (pc' := 113) (ls' := [(0, .inl (a0))]) (st' := [.inl (1)]) (σ' := σ) rfl ?_
                    exact wk_rZ tt_267 rfl rfl (by decide) ⟨by rw [v_isSign, if_neg (show ¬ (a0 = 40) by omega), if_neg (show ¬ (a0 = 41) by omega), if_neg (show ¬ (a0 = 123) by omega), if_neg (show ¬ (a0 = 125) by omega), if_neg (show ¬ (a0 = 91) by omega), if_neg (show ¬ (a0 = 93) by omega), if_neg (show ¬ (a0 = 44) by omega), if_neg (show ¬ (a0 = 58) by omega), if_pos h9], rfl⟩
                  ·
                    refine wk_b tt_267 2 (pc' := 57) (ls' := [(0, .inl (a0))]) (st' := [.inl (124), .inl (a0)]) (σ' := σ) rfl ?_
                    refine wk_if2 tt_267 (tgt := 108) rfl rfl ra0 (by decide) (fun (h10 : a0 = 124) => ?_) (fun (h10 : ¬ a0 = 124) => ?_)
                    ·
                      refine wk_b tt_267 2 (pc' := 113) (ls' := [(0, .inl (a0))]) (st' := [.inl (1)]) (σ' := σ) rfl ?_
                      exact wk_rZ tt_267 rfl rfl (by decide) ⟨by rw [v_isSign, if_neg (show ¬ (a0 = 40) by omega), if_neg (show ¬ (a0 = 41) by omega), if_neg (show ¬ (a0 = 123) by omega), if_neg (show ¬ (a0 = 125) by omega), if_neg (show ¬ (a0 = 91) by omega), if_neg (show ¬ (a0 = 93) by omega), if_neg (show ¬ (a0 = 44) by omega), if_neg (show ¬ (a0 = 58) by omega), if_neg (show ¬ (a0 = 59) by omega), if_pos h10], rfl⟩
                    ·
                      refine wk_b tt_267 2 (pc' := 63) (ls' := [(0, .inl (a0))]) (st' := [.inl (61), .inl (a0)]) (σ' := σ) rfl ?_
                      refine wk_if2 tt_267 (tgt := 108) rfl rfl ra0 (by decide) (fun (h11 : a0 = 61) => ?_) (fun (h11 : ¬ a0 = 61) => ?_)
                      ·
                        refine wk_b tt_267 2 (pc' := 113) (ls' := [(0, .inl (a0))]) (st' := [.inl (1)]) (σ' := σ) rfl ?_
                        exact wk_rZ tt_267 rfl rfl (by decide) ⟨by rw [v_isSign, if_neg (show ¬ (a0 = 40) by omega), if_neg (show ¬ (a0 = 41) by omega), if_neg (show ¬ (a0 = 123) by omega), if_neg (show ¬ (a0 = 125) by omega), if_neg (show ¬ (a0 = 91) by omega), if_neg (show ¬ (a0 = 93) by omega), if_neg (show ¬ (a0 = 44) by omega), if_neg (show ¬ (a0 = 58) by omega), if_neg (show ¬ (a0 = 59) by omega), if_neg (show ¬ (a0 = 124) by omega), if_pos h11], rfl⟩
                      ·
                        refine wk_b tt_267 2 (pc' := 69) (ls' := [(0, .inl (a0))]) (st' := [.inl (60), .inl (a0)]) (σ' := σ) rfl ?_
                        refine wk_if2 tt_267 (tgt := 108) rfl rfl ra0 (by decide) (fun (h12 : a0 = 60) => ?_) (fun (h12 : ¬ a0 = 60) => ?_)
                        ·
                          refine wk_b tt_267 2 (pc' := 113) (ls' := [(0, .inl (a0))]) (st' := [.inl (1)]) (σ' := σ) rfl ?_
                          exact wk_rZ tt_267 rfl rfl (by decide) ⟨by rw [v_isSign, if_neg (show ¬ (a0 = 40) by omega), if_neg (show ¬ (a0 = 41) by omega), if_neg (show ¬ (a0 = 123) by omega), if_neg (show ¬ (a0 = 125) by omega), if_neg (show ¬ (a0 = 91) by omega), if_neg (show ¬ (a0 = 93) by omega), if_neg (show ¬ (a0 = 44) by omega), if_neg (show ¬ (a0 = 58) by omega), if_neg (show ¬ (a0 = 59) by omega), if_neg (show ¬ (a0 = 124) by omega), if_neg (show ¬ (a0 = 61) by omega), if_pos h12], rfl⟩
                        ·
                          refine wk_b tt_267 2 (pc' := 75) (ls' := [(0, .inl (a0))]) (st' := [.inl (43), .inl (a0)]) (σ' := σ) rfl ?_
                          refine wk_if2 tt_267 (tgt := 108) rfl rfl ra0 (by decide) (fun (h13 : a0 = 43) => ?_) (fun (h13 : ¬ a0 = 43) => ?_)
                          ·
                            refine wk_b tt_267 2 (pc' := 113) (ls' := [(0, .inl (a0))]) (st' := [.inl (1)]) (σ' := σ) rfl ?_
                            exact wk_rZ tt_267 rfl rfl (by decide) ⟨by rw [v_isSign, if_neg (show ¬ (a0 = 40) by omega), if_neg (show ¬ (a0 = 41) by omega), if_neg (show ¬ (a0 = 123) by omega), if_neg (show ¬ (a0 = 125) by omega), if_neg (show ¬ (a0 = 91) by omega), if_neg (show ¬ (a0 = 93) by omega), if_neg (show ¬ (a0 = 44) by omega), if_neg (show ¬ (a0 = 58) by omega), if_neg (show ¬ (a0 = 59) by omega), if_neg (show ¬ (a0 = 124) by omega), if_neg (show ¬ (a0 = 61) by omega), if_neg (show ¬ (a0 = 60) by omega), if_pos h13], rfl⟩
                          ·
                            refine wk_b tt_267 2 (pc' := 81) (ls' := [(0, .inl (a0))]) (st' := [.inl (45), .inl (a0)]) (σ' := σ) rfl ?_
                            refine wk_if2 tt_267 (tgt := 108) rfl rfl ra0 (by decide) (fun (h14 : a0 = 45) => ?_) (fun (h14 : ¬ a0 = 45) => ?_)
                            ·
                              refine wk_b tt_267 2 (pc' := 113) (ls' := [(0, .inl (a0))]) (st' := [.inl (1)]) (σ' := σ) rfl ?_
                              exact wk_rZ tt_267 rfl rfl (by decide) ⟨by rw [v_isSign, if_neg (show ¬ (a0 = 40) by omega), if_neg (show ¬ (a0 = 41) by omega), if_neg (show ¬ (a0 = 123) by omega), if_neg (show ¬ (a0 = 125) by omega), if_neg (show ¬ (a0 = 91) by omega), if_neg (show ¬ (a0 = 93) by omega), if_neg (show ¬ (a0 = 44) by omega), if_neg (show ¬ (a0 = 58) by omega), if_neg (show ¬ (a0 = 59) by omega), if_neg (show ¬ (a0 = 124) by omega), if_neg (show ¬ (a0 = 61) by omega), if_neg (show ¬ (a0 = 60) by omega), if_neg (show ¬ (a0 = 43) by omega), if_pos h14], rfl⟩
                            ·
                              refine wk_b tt_267 2 (pc' := 87) (ls' := [(0, .inl (a0))]) (st' := [.inl (42), .inl (a0)]) (σ' := σ) rfl ?_
                              refine wk_if2 tt_267 (tgt := 108) rfl rfl ra0 (by decide) (fun (h15 : a0 = 42) => ?_) (fun (h15 : ¬ a0 = 42) => ?_)
                              ·
                                refine wk_b tt_267 2 (pc' := 113) (ls' := [(0, .inl (a0))]) (st' := [.inl (1)]) (σ' := σ) rfl ?_
                                exact wk_rZ tt_267 rfl rfl (by decide) ⟨by rw [v_isSign, if_neg (show ¬ (a0 = 40) by omega), if_neg (show ¬ (a0 = 41) by omega), if_neg (show ¬ (a0 = 123) by omega), if_neg (show ¬ (a0 = 125) by omega), if_neg (show ¬ (a0 = 91) by omega), if_neg (show ¬ (a0 = 93) by omega), if_neg (show ¬ (a0 = 44) by omega), if_neg (show ¬ (a0 = 58) by omega), if_neg (show ¬ (a0 = 59) by omega), if_neg (show ¬ (a0 = 124) by omega), if_neg (show ¬ (a0 = 61) by omega), if_neg (show ¬ (a0 = 60) by omega), if_neg (show ¬ (a0 = 43) by omega), if_neg (show ¬ (a0 = 45) by omega), if_pos h15], rfl⟩
                              ·
                                refine wk_b tt_267 2 (pc' := 93) (ls' := [(0, .inl (a0))]) (st' := [.inl (47), .inl (a0)]) (σ' := σ) rfl ?_
                                refine wk_if2 tt_267 (tgt := 108) rfl rfl ra0 (by decide) (fun (h16 : a0 = 47) => ?_) (fun (h16 : ¬ a0 = 47) => ?_)
                                ·
                                  refine wk_b tt_267 2 (pc' := 113) (ls' := [(0, .inl (a0))]) (st' := [.inl (1)]) (σ' := σ) rfl ?_
                                  exact wk_rZ tt_267 rfl rfl (by decide) ⟨by rw [v_isSign, if_neg (show ¬ (a0 = 40) by omega), if_neg (show ¬ (a0 = 41) by omega), if_neg (show ¬ (a0 = 123) by omega), if_neg (show ¬ (a0 = 125) by omega), if_neg (show ¬ (a0 = 91) by omega), if_neg (show ¬ (a0 = 93) by omega), if_neg (show ¬ (a0 = 44) by omega), if_neg (show ¬ (a0 = 58) by omega), if_neg (show ¬ (a0 = 59) by omega), if_neg (show ¬ (a0 = 124) by omega), if_neg (show ¬ (a0 = 61) by omega), if_neg (show ¬ (a0 = 60) by omega), if_neg (show ¬ (a0 = 43) by omega), if_neg (show ¬ (a0 = 45) by omega), if_neg (show ¬ (a0 = 42) by omega), if_pos h16], rfl⟩
                                ·
                                  refine wk_b tt_267 2 (pc' := 99) (ls' := [(0, .inl (a0))]) (st' := [.inl (37), .inl (a0)]) (σ' := σ) rfl ?_
                                  refine wk_if2 tt_267 (tgt := 108) rfl rfl ra0 (by decide) (fun (h17 : a0 = 37) => ?_) (fun (h17 : ¬ a0 = 37) => ?_)
                                  ·
                                    refine wk_b tt_267 2 (pc' := 113) (ls' := [(0, .inl (a0))]) (st' := [.inl (1)]) (σ' := σ) rfl ?_
                                    exact wk_rZ tt_267 rfl rfl (by decide) ⟨by rw [v_isSign, if_neg (show ¬ (a0 = 40) by omega), if_neg (show ¬ (a0 = 41) by omega), if_neg (show ¬ (a0 = 123) by omega), if_neg (show ¬ (a0 = 125) by omega), if_neg (show ¬ (a0 = 91) by omega), if_neg (show ¬ (a0 = 93) by omega), if_neg (show ¬ (a0 = 44) by omega), if_neg (show ¬ (a0 = 58) by omega), if_neg (show ¬ (a0 = 59) by omega), if_neg (show ¬ (a0 = 124) by omega), if_neg (show ¬ (a0 = 61) by omega), if_neg (show ¬ (a0 = 60) by omega), if_neg (show ¬ (a0 = 43) by omega), if_neg (show ¬ (a0 = 45) by omega), if_neg (show ¬ (a0 = 42) by omega), if_neg (show ¬ (a0 = 47) by omega), if_pos h17], rfl⟩
                                  ·
                                    refine wk_b tt_267 2 (pc' := 105) (ls' := [(0, .inl (a0))]) (st' := [.inl (35), .inl (a0)]) (σ' := σ) rfl ?_
                                    refine wk_if2 tt_267 (tgt := 112) rfl rfl ra0 (by decide) (fun (h18 : ¬ a0 = 35) => ?_) (fun (h18 : a0 = 35) => ?_)
                                    ·
                                      refine wk_b tt_267 1 (pc' := 113) (ls' := [(0, .inl (a0))]) (st' := [.inl (0)]) (σ' := σ) rfl ?_
                                      exact wk_rZ tt_267 rfl rfl (by decide) ⟨by rw [v_isSign, if_neg (show ¬ (a0 = 40) by omega), if_neg (show ¬ (a0 = 41) by omega), if_neg (show ¬ (a0 = 123) by omega), if_neg (show ¬ (a0 = 125) by omega), if_neg (show ¬ (a0 = 91) by omega), if_neg (show ¬ (a0 = 93) by omega), if_neg (show ¬ (a0 = 44) by omega), if_neg (show ¬ (a0 = 58) by omega), if_neg (show ¬ (a0 = 59) by omega), if_neg (show ¬ (a0 = 124) by omega), if_neg (show ¬ (a0 = 61) by omega), if_neg (show ¬ (a0 = 60) by omega), if_neg (show ¬ (a0 = 43) by omega), if_neg (show ¬ (a0 = 45) by omega), if_neg (show ¬ (a0 = 42) by omega), if_neg (show ¬ (a0 = 47) by omega), if_neg (show ¬ (a0 = 37) by omega), if_pos h18], rfl⟩
                                    ·
                                      refine wk_b tt_267 2 (pc' := 113) (ls' := [(0, .inl (a0))]) (st' := [.inl (1)]) (σ' := σ) rfl ?_
                                      exact wk_rZ tt_267 rfl rfl (by decide) ⟨by rw [v_isSign, if_neg (show ¬ (a0 = 40) by omega), if_neg (show ¬ (a0 = 41) by omega), if_neg (show ¬ (a0 = 123) by omega), if_neg (show ¬ (a0 = 125) by omega), if_neg (show ¬ (a0 = 91) by omega), if_neg (show ¬ (a0 = 93) by omega), if_neg (show ¬ (a0 = 44) by omega), if_neg (show ¬ (a0 = 58) by omega), if_neg (show ¬ (a0 = 59) by omega), if_neg (show ¬ (a0 = 124) by omega), if_neg (show ¬ (a0 = 61) by omega), if_neg (show ¬ (a0 = 60) by omega), if_neg (show ¬ (a0 = 43) by omega), if_neg (show ¬ (a0 = 45) by omega), if_neg (show ¬ (a0 = 42) by omega), if_neg (show ¬ (a0 = 47) by omega), if_neg (show ¬ (a0 = 37) by omega), if_neg (show ¬ (¬ a0 = 35) by omega)], rfl⟩
-- NestedVectorsModel.token
def V_token (σ : sg_S) (a1 : Int) (a2 : Int) (a3 : Int) (Q : sg_S → Prop) : Prop := (0 ≤ (sg_g σ 88 3) ∧ (sg_g σ 88 3) < 1210) ∧ ∀ σ2, σ2 = (sg_w σ 90 ((sg_g σ 88 3)) (a1)) → ∀ σ5, σ5 = (sg_w σ2 91 ((sg_g σ 88 3)) (a2)) → ∀ σ8, σ8 = (sg_wl σ5 92 ((sg_g σ 88 3)) (a3)) → sg_R ((sg_g σ 88 3) + 1) ∧ ∀ σ12, σ12 = (sg_w σ8 88 3 (((sg_g σ 88 3) + 1))) → Q σ12
set_option maxHeartbeats 4000000 in
set_option maxRecDepth 8000 in
theorem w_token (z : Value) (σ : sg_S) (a1 : Int) (a2 : Int) (a3 : Int) (Q : sg_S → Prop) (ra1 : sg_R a1) (ra2 : sg_R a2) (ra3 : sg_RL a3) (w : V_token σ a1 a2 a3 Q) : wx z 0 331 0 [(0, .inr (.inr (.ref 88))), (1, .inl (a1)), (2, .inl (a2)), (3, .inr (.inl (a3)))] [] σ (fun v σ' => v = none ∧ sg_F [90, 91, 92, 4088] σ σ' ∧ Q σ') := by
  unfold V_token at w
  refine wk_b tt_331 5 (pc' := 9) (ls' := [(0, .inr (.inr (.ref 88))), (1, .inl (a1)), (2, .inl (a2)), (3, .inr (.inl (a3)))]) (st' := [.inl (a1), .inl ((sg_g σ 88 3)), .inr (.inr (.ref 90))]) (σ' := σ) rfl ?_
  obtain ⟨c1, w⟩ := w
  refine wk_is tt_331 rfl rfl c1.1 c1.2 (sg_Rg _ _ _) ?_
  generalize hs3 : (sg_w σ 90 ((sg_g σ 88 3)) (a1)) = σ2
  have w := w σ2 hs3.symm
  have hF4 : sg_F [90] σ σ2 := by rw [← hs3]; exact sg_F_w (sg_F_r _ _) rfl _
  refine wk_b tt_331 5 (pc' := 19) (ls' := [(0, .inr (.inr (.ref 88))), (1, .inl (a1)), (2, .inl (a2)), (3, .inr (.inl (a3)))]) (st' := [.inl (a2), .inl ((sg_g σ2 88 3)), .inr (.inr (.ref 91))]) (σ' := σ2) rfl ?_
  rw [show (sg_g σ2 88 3) = (sg_g σ 88 3) from by rw [sg_F_ga hF4 rfl]]
  refine wk_is tt_331 rfl rfl c1.1 c1.2 (sg_Rg _ _ _) ?_
  generalize hs6 : (sg_w σ2 91 ((sg_g σ 88 3)) (a2)) = σ5
  have w := w σ5 hs6.symm
  have hF7 : sg_F [91] σ2 σ5 := by rw [← hs6]; exact sg_F_w (sg_F_r _ _) rfl _
  refine wk_b tt_331 5 (pc' := 29) (ls' := [(0, .inr (.inr (.ref 88))), (1, .inl (a1)), (2, .inl (a2)), (3, .inr (.inl (a3)))]) (st' := [.inr (.inl (a3)), .inl ((sg_g σ5 88 3)), .inr (.inr (.ref 92))]) (σ' := σ5) rfl ?_
  rw [show (sg_g σ5 88 3) = (sg_g σ 88 3) from by rw [sg_F_ga hF7 rfl, sg_F_ga hF4 rfl]]
  refine wk_lS tt_331 rfl rfl c1.1 c1.2 (sg_Rg _ _ _) ?_
  generalize hs9 : (sg_wl σ5 92 ((sg_g σ 88 3)) (a3)) = σ8
  have w := w σ8 hs9.symm
  have hF10 : sg_F [92] σ5 σ8 := by rw [← hs9]; exact sg_F_wl (sg_F_r _ _) rfl _
  obtain ⟨c11, w⟩ := w
  refine wk_b tt_331 6 (pc' := 40) (ls' := [(0, .inr (.inr (.ref 88))), (1, .inl (a1)), (2, .inl (a2)), (3, .inr (.inl (a3)))]) (st' := []) (σ' := (sg_w σ8 88 3 (((sg_g σ8 88 3) + 1)))) rfl ?_
  rw [show (sg_g σ8 88 3) = (sg_g σ 88 3) from by rw [sg_F_ga hF10 rfl, sg_F_ga hF7 rfl, sg_F_ga hF4 rfl]]
  generalize hs13 : (sg_w σ8 88 3 (((sg_g σ 88 3) + 1))) = σ12
  have w := w σ12 hs13.symm
  have hF14 : sg_F [4088] σ8 σ12 := by rw [← hs13]; exact sg_F_w (sg_F_r _ _) rfl _
  exact wk_rV tt_331 rfl rfl ⟨rfl, (sg_F_t (sg_F_t (sg_F_t (sg_F_t (sg_F_r [90, 91, 92, 4088] σ) (sg_F_m (L := [90, 91, 92, 4088]) hF4 rfl)) (sg_F_m (L := [90, 91, 92, 4088]) hF7 rfl)) (sg_F_m (L := [90, 91, 92, 4088]) hF10 rfl)) (sg_F_m (L := [90, 91, 92, 4088]) hF14 rfl)), w⟩
-- NestedVectorsModel.cutTokens
def V_cutTokens (σ : sg_S) (Q : sg_S → Prop) : Prop := ∀ σ1, σ1 = (sg_w σ 88 3 (0)) → (∃ (I8 : Nat → Int → Int → sg_S → Prop) (X10 : Int → sg_S → Prop), (∃ n, I8 n (0) (1) σ1) ∧ (∀ (n19 : Nat) (v4 : Int) (v5 : Int) (σ6 : sg_S), sg_R v4 → sg_R v5 → sg_F [90, 91, 92, 4088] σ1 σ6 → I8 n19 v4 v5 σ6 → (((sg_g σ 88 2) ≤ v4 → X10 (v5) σ6) ∧ (v4 < (sg_g σ 88 2) → ((v5 = 0 → X10 (v5) σ6) ∧ (¬ v5 = 0 → (0 ≤ v4 ∧ v4 < 1200) ∧ (∃ P33 : Int → Int → sg_S → Prop, (((sg_g σ 89 (v4)) = 32 → sg_R (v4 + 1) ∧ P33 ((v4 + 1)) (v5) σ6) ∧ (¬ (sg_g σ 89 (v4)) = 32 → ((¬ (sg_g σ 89 (v4)) = 10 → (((v_isDigit ((sg_g σ 89 (v4)))) = 0 → (((v_isLetter ((sg_g σ 89 (v4)))) = 0 → sg_R (v4 + 1) ∧ ∀ v49 : Int, v49 = (if (v_isSign ((sg_g σ 89 (v4)))) = 0 then (4 : Int) else (3 : Int)) → sg_R v49 → V_token σ6 (v49) (v4) ((sg_g σ 89 (v4))) (fun σ53 => sg_F [90, 91, 92, 4088] σ6 σ53 → P33 ((v4 + 1)) ((v_isSign ((sg_g σ 89 (v4))))) σ53)) ∧ (¬ (v_isLetter ((sg_g σ 89 (v4)))) = 0 → (∃ (I62 : Nat → Int → Int → Prop) (X64 : Int → Int → Prop), (∃ n, I62 n (v4) (0)) ∧ (∀ (n73 : Nat) (v58 : Int) (v59 : Int), sg_R v58 → sg_RL v59 → I62 n73 v58 v59 → p_byteOf σ (v58) ∧ ((¬ (v_isLetter ((v_byteOf σ (v58)))) = 0 → p_byteOf σ (v58) ∧ (((v_isLetter ((v_byteOf σ (v58)))) = 0 → p_byteOf σ (v58) ∧ sg_R ((v_byteOf σ (v58)) - 21) ∧ True) ∧ (¬ (v_isLetter ((v_byteOf σ (v58)))) = 0 → p_byteOf σ (v58) ∧ sg_R ((v_byteOf σ (v58)) - 96) ∧ True)) ∧ ∀ v99 : Int, v99 = (if (v_isLetter ((v_byteOf σ (v58)))) = 0 then ((v_byteOf σ (v58)) - 21) else ((v_byteOf σ (v58)) - 96)) → sg_R v99 → sg_R (v58 - v4) ∧ ((8 ≤ (v58 - v4) → True) ∧ ((v58 - v4) < 8 → sg_RL (40 * v59) ∧ sg_RL ((40 * v59) + v99) ∧ True)) ∧ ∀ v105 : Int, v105 = (if 8 ≤ (v58 - v4) then v59 else ((40 * v59) + v99)) → sg_RL v105 → sg_R (v58 + 1) ∧ (∃ m, m < n73 ∧ I62 m ((v58 + 1)) (v105))) ∧ ((v_isLetter ((v_byteOf σ (v58)))) = 0 → p_byteOf σ (v58) ∧ (((v_isDigit ((v_byteOf σ (v58)))) = 0 → X64 (v58) (v59)) ∧ (¬ (v_isDigit ((v_byteOf σ (v58)))) = 0 → p_byteOf σ (v58) ∧ (((v_isLetter ((v_byteOf σ (v58)))) = 0 → p_byteOf σ (v58) ∧ sg_R ((v_byteOf σ (v58)) - 21) ∧ True) ∧ (¬ (v_isLetter ((v_byteOf σ (v58)))) = 0 → p_byteOf σ (v58) ∧ sg_R ((v_byteOf σ (v58)) - 96) ∧ True)) ∧ ∀ v125 : Int, v125 = (if (v_isLetter ((v_byteOf σ (v58)))) = 0 then ((v_byteOf σ (v58)) - 21) else ((v_byteOf σ (v58)) - 96)) → sg_R v125 → sg_R (v58 - v4) ∧ ((8 ≤ (v58 - v4) → True) ∧ ((v58 - v4) < 8 → sg_RL (40 * v59) ∧ sg_RL ((40 * v59) + v125) ∧ True)) ∧ ∀ v131 : Int, v131 = (if 8 ≤ (v58 - v4) then v59 else ((40 * v59) + v125)) → sg_RL v131 → sg_R (v58 + 1) ∧ (∃ m, m < n73 ∧ I62 m ((v58 + 1)) (v131))))))) ∧ (∀ (v58 : Int) (v59 : Int), sg_R v58 → sg_RL v59 → X64 v58 v59 → sg_R (v58 - v4) ∧ ∀ v78 : Int, v78 = (if 9 ≤ (v58 - v4) then (0 : Int) else (1 : Int)) → sg_R v78 → ∀ v83 : Int, v83 = (if v78 = 0 then (4 : Int) else (2 : Int)) → sg_R v83 → V_token σ6 (v83) (v4) (v59) (fun σ87 => sg_F [90, 91, 92, 4088] σ6 σ87 → P33 (v58) (v78) σ87)))))) ∧ (¬ (v_isDigit ((sg_g σ 89 (v4)))) = 0 → (∃ (I148 : Nat → Int → Int → Prop) (X150 : Int → Int → Prop), (∃ n, I148 n (v4) (0)) ∧ (∀ (n159 : Nat) (v144 : Int) (v145 : Int), sg_R v144 → sg_RL v145 → I148 n159 v144 v145 → p_byteOf σ (v144) ∧ (((v_isDigit ((v_byteOf σ (v144)))) = 0 → X150 (v144) (v145)) ∧ (¬ (v_isDigit ((v_byteOf σ (v144)))) = 0 → sg_R (v144 - v4) ∧ ((10 ≤ (v144 - v4) → True) ∧ ((v144 - v4) < 10 → sg_RL (10 * v145) ∧ p_byteOf σ (v144) ∧ sg_RL ((10 * v145) + (v_byteOf σ (v144))) ∧ sg_RL (((10 * v145) + (v_byteOf σ (v144))) - 48) ∧ True)) ∧ ∀ v184 : Int, v184 = (if 10 ≤ (v144 - v4) then v145 else (((10 * v145) + (v_byteOf σ (v144))) - 48)) → sg_RL v184 → sg_R (v144 + 1) ∧ (∃ m, m < n159 ∧ I148 m ((v144 + 1)) (v184))))) ∧ (∀ (v144 : Int) (v145 : Int), sg_R v144 → sg_RL v145 → X150 v144 v145 → sg_R (v144 - v4) ∧ ∀ v164 : Int, v164 = (if 10 ≤ (v144 - v4) then (0 : Int) else (1 : Int)) → sg_R v164 → ∀ v169 : Int, v169 = (if v164 = 0 then (4 : Int) else (1 : Int)) → sg_R v169 → V_token σ6 (v169) (v4) (v145) (fun σ173 => sg_F [90, 91, 92, 4088] σ6 σ173 → P33 (v144) (v164) σ173)))))) ∧ ((sg_g σ 89 (v4)) = 10 → sg_R (v4 + 1) ∧ P33 ((v4 + 1)) (v5) σ6)))) ∧ (∀ (v36 : Int) (v37 : Int) (σ34 : sg_S), sg_R v36 → sg_R v37 → sg_F [90, 91, 92, 4088] σ6 σ34 → P33 v36 v37 σ34 → (∃ m, m < n19 ∧ I8 m (v36) (v37) σ34)))))))) ∧ (∀ (v5 : Int) (σ6 : sg_S), sg_R v5 → sg_F [90, 91, 92, 4088] σ1 σ6 → X10 v5 σ6 → ((v5 = 0 → Q σ6) ∧ (¬ v5 = 0 → V_token σ6 (0) ((sg_g σ 88 2)) (0) (fun σ23 => sg_F [90, 91, 92, 4088] σ6 σ23 → Q σ23)))))
set_option maxHeartbeats 4000000 in
set_option maxRecDepth 8000 in
theorem w_cutTokens (z : Value) (σ : sg_S) (Q : sg_S → Prop)  (w : V_cutTokens σ  Q) : wx z 2 220 0 [(0, .inr (.inr (.ref 88)))] [] σ (fun v σ' => v = none ∧ sg_F [90, 91, 92, 4088] σ σ' ∧ Q σ') := by
  unfold V_cutTokens at w
  refine wk_b tt_220 3 (pc' := 5) (ls' := [(0, .inr (.inr (.ref 88)))]) (st' := []) (σ' := (sg_w σ 88 3 (0))) rfl ?_
  generalize hs2 : (sg_w σ 88 3 (0)) = σ1
  have w := w σ1 hs2.symm
  have hF3 : sg_F [4088] σ σ1 := by rw [← hs2]; exact sg_F_w (sg_F_r _ _) rfl _
  refine wk_b tt_220 4 (pc' := 9) (ls' := [(2, .inl (1)), (1, .inl (0)), (0, .inr (.inr (.ref 88)))]) (st' := []) (σ' := σ1) rfl ?_
  obtain ⟨I8, X10, ⟨μ9, w16⟩, w17, w18⟩ := w
  have ex20 : ∀ (v5 : Int) (σ6 : sg_S), sg_R v5 → sg_F [90, 91, 92, 4088] σ1 σ6 → X10 v5 σ6 → wx z 2 220 300 [(0, .inr (.inr (.ref 88))), (2, .inl (v5))] [] σ6 (fun v σ' => v = none ∧ sg_F [90, 91, 92, 4088] σ σ' ∧ Q σ') := by
    intro v5 σ6 r12 hF7 w
    have w := w18 v5 σ6 r12 hF7 w
    refine wk_b tt_220 1 (pc' := 301) (ls' := [(0, .inr (.inr (.ref 88))), (2, .inl (v5))]) (st' := [.inl (v5)]) (σ' := σ6) rfl ?_
    refine wk_if tt_220 (tgt := 314) rfl rfl r12 (fun (h21 : v5 = 0) => ?_) (fun (h21 : ¬ v5 = 0) => ?_)
    ·
      have w := w.1 h21
      exact wk_rV tt_220 rfl rfl ⟨rfl, (sg_F_t (sg_F_t (sg_F_r [90, 91, 92, 4088] σ) (sg_F_m (L := [90, 91, 92, 4088]) hF3 rfl)) (sg_F_m (L := [90, 91, 92, 4088]) hF7 rfl)), w⟩
    ·
      have w := w.2 h21
      refine wk_b tt_220 5 (pc' := 311) (ls' := [(0, .inr (.inr (.ref 88))), (2, .inl (v5))]) (st' := [.inr (.inl (0)), .inl ((sg_g σ6 88 2)), .inl (0), .inr (.inr (.ref 88))]) (σ' := σ6) rfl ?_
      rw [show (sg_g σ6 88 2) = (sg_g σ 88 2) from by rw [sg_F_g hF7 rfl, sg_F_g hF3 rfl]]
      refine wk_call tt_220 rfl rfl rfl rfl rfl tt_331 rfl (by decide) (w_token z σ6 (0) ((sg_g σ 88 2)) (0) _ (by decide) (sg_Rg _ _ _) (by decide) w) (fun u27 σ23 hq25 => ?_)
      obtain ⟨rfl, hF24, w⟩ := hq25
      have w := w hF24
      exact wk_rV tt_220 rfl rfl ⟨rfl, (sg_F_t (sg_F_t (sg_F_t (sg_F_r [90, 91, 92, 4088] σ) (sg_F_m (L := [90, 91, 92, 4088]) hF3 rfl)) (sg_F_m (L := [90, 91, 92, 4088]) hF7 rfl)) (sg_F_m (L := [90, 91, 92, 4088]) hF24 rfl)), w⟩
  have lp15 : ∀ (n19 : Nat) (v4 : Int) (v5 : Int) (σ6 : sg_S), sg_R v4 → sg_R v5 → sg_F [90, 91, 92, 4088] σ1 σ6 → I8 n19 v4 v5 σ6 → wx z 2 220 9 [(0, .inr (.inr (.ref 88))), (1, .inl (v4)), (2, .inl (v5))] [] σ6 (fun v σ' => v = none ∧ sg_F [90, 91, 92, 4088] σ σ' ∧ Q σ') := by
    intro n19
    induction n19 using Nat.strongRecOn with
    | _ n19 ih13 =>
      intro v4 v5 σ6 r11 r12 hF7 w
      have w := w17 n19 v4 v5 σ6 r11 r12 hF7 w
      refine wk_b tt_220 3 (pc' := 14) (ls' := [(0, .inr (.inr (.ref 88))), (1, .inl (v4)), (2, .inl (v5))]) (st' := [.inl ((sg_g σ6 88 2)), .inl (v4)]) (σ' := σ6) rfl ?_
      rw [show (sg_g σ6 88 2) = (sg_g σ 88 2) from by rw [sg_F_g hF7 rfl, sg_F_g hF3 rfl]]
      refine wk_if2 tt_220 (tgt := 300) rfl rfl r11 (sg_Rg _ _ _) (fun (h28 : (sg_g σ 88 2) ≤ v4) => ?_) (fun (h28 : v4 < (sg_g σ 88 2)) => ?_)
      ·
        have w := w.1 h28
        exact wk_ls [(0, .inr (.inr (.ref 88))), (2, .inl (v5))] rfl ⟨rfl, rfl, trivial⟩ (ex20 (v5) σ6 r12 (sg_F_t (sg_F_r [90, 91, 92, 4088] σ1) (sg_F_m (L := [90, 91, 92, 4088]) hF7 rfl)) w)
      ·
        have w := w.2 h28
        refine wk_b tt_220 1 (pc' := 18) (ls' := [(0, .inr (.inr (.ref 88))), (1, .inl (v4)), (2, .inl (v5))]) (st' := [.inl (v5)]) (σ' := σ6) rfl ?_
        refine wk_if tt_220 (tgt := 300) rfl rfl r12 (fun (h29 : v5 = 0) => ?_) (fun (h29 : ¬ v5 = 0) => ?_)
        ·
          have w := w.1 h29
          exact wk_ls [(0, .inr (.inr (.ref 88))), (2, .inl (v5))] rfl ⟨rfl, rfl, trivial⟩ (ex20 (v5) σ6 r12 (sg_F_t (sg_F_r [90, 91, 92, 4088] σ1) (sg_F_m (L := [90, 91, 92, 4088]) hF7 rfl)) w)
        ·
          have w := w.2 h29
          refine wk_b tt_220 3 (pc' := 26) (ls' := [(0, .inr (.inr (.ref 88))), (1, .inl (v4)), (2, .inl (v5))]) (st' := [.inl (v4), .inr (.inr (.ref 89))]) (σ' := σ6) rfl ?_
          obtain ⟨c30, w⟩ := w
          refine wk_ia tt_220 rfl rfl c30.1 c30.2 r11 ?_
          rw [show (sg_g σ6 89 (v4)) = (sg_g σ 89 (v4)) from by rw [sg_F_ga hF7 rfl, sg_F_ga hF3 rfl]]
          refine wk_b tt_220 7 (pc' := 37) (ls' := [(5, .inr (.inl (0))), (4, .inl (v4)), (3, .inl ((sg_g σ 89 (v4)))), (0, .inr (.inr (.ref 88))), (1, .inl (v4)), (2, .inl (v5))]) (st' := [.inl (32), .inl ((sg_g σ 89 (v4)))]) (σ' := σ6) rfl ?_
          obtain ⟨P33, w, w40⟩ := w
          have jn32 : ∀ (v36 : Int) (v37 : Int) (σ34 : sg_S), sg_R v36 → sg_R v37 → sg_F [90, 91, 92, 4088] σ6 σ34 → P33 v36 v37 σ34 → wx z 2 220 297 [(0, .inr (.inr (.ref 88))), (1, .inl (v36)), (2, .inl (v37))] [] σ34 (fun v σ' => v = none ∧ sg_F [90, 91, 92, 4088] σ σ' ∧ Q σ') := by
            intro v36 v37 σ34 r38 r39 hF35 w
            have w := w40 v36 v37 σ34 r38 r39 hF35 w
            refine wk_b tt_220 1 (pc' := 9) (ls' := [(0, .inr (.inr (.ref 88))), (1, .inl (v36)), (2, .inl (v37))]) (st' := []) (σ' := σ34) rfl ?_
            obtain ⟨m41, hm41, w⟩ := w
            exact wk_ls [(0, .inr (.inr (.ref 88))), (1, .inl (v36)), (2, .inl (v37))] rfl ⟨rfl, rfl, rfl, trivial⟩ (ih13 m41 hm41 (v36) (v37) σ34 r38 r39 (sg_F_t (sg_F_t (sg_F_r [90, 91, 92, 4088] σ1) (sg_F_m (L := [90, 91, 92, 4088]) hF7 rfl)) (sg_F_m (L := [90, 91, 92, 4088]) hF35 rfl)) w)
          refine wk_if2 tt_220 (tgt := 46) rfl rfl (sg_Rg _ _ _) (by decide) (fun (h31 : (sg_g σ 89 (v4)) = 32) => ?_) (fun (h31 : ¬ (sg_g σ 89 (v4)) = 32) => ?_)
          ·
            have w := w.1 h31
            obtain ⟨c42, w⟩ := w
            refine wk_b tt_220 2 (pc' := 297) (ls' := [(1, .inl ((v4 + 1))), (5, .inr (.inl (0))), (4, .inl (v4)), (3, .inl ((sg_g σ 89 (v4)))), (0, .inr (.inr (.ref 88))), (2, .inl (v5))]) (st' := []) (σ' := σ6) rfl ?_
            exact wk_ls [(0, .inr (.inr (.ref 88))), (1, .inl ((v4 + 1))), (2, .inl (v5))] rfl ⟨rfl, rfl, rfl, trivial⟩ (jn32 ((v4 + 1)) (v5) σ6 c42 r12 (sg_F_r [90, 91, 92, 4088] σ6) w)
          ·
            have w := w.2 h31
            refine wk_b tt_220 2 (pc' := 43) (ls' := [(5, .inr (.inl (0))), (4, .inl (v4)), (3, .inl ((sg_g σ 89 (v4)))), (0, .inr (.inr (.ref 88))), (1, .inl (v4)), (2, .inl (v5))]) (st' := [.inl (10), .inl ((sg_g σ 89 (v4)))]) (σ' := σ6) rfl ?_
            refine wk_if2 tt_220 (tgt := 52) rfl rfl (sg_Rg _ _ _) (by decide) (fun (h43 : ¬ (sg_g σ 89 (v4)) = 10) => ?_) (fun (h43 : (sg_g σ 89 (v4)) = 10) => ?_)
            ·
              have w := w.1 h43
              refine wk_b tt_220 1 (pc' := 53) (ls' := [(5, .inr (.inl (0))), (4, .inl (v4)), (3, .inl ((sg_g σ 89 (v4)))), (0, .inr (.inr (.ref 88))), (1, .inl (v4)), (2, .inl (v5))]) (st' := [.inl ((sg_g σ 89 (v4)))]) (σ' := σ6) rfl ?_
              refine wk_callp tt_220 rfl rfl rfl rfl rfl tt_261 rfl (by decide) (w_isDigit z σ6 ((sg_g σ 89 (v4))) (sg_Rg _ _ _) ) ?_
              refine wk_if tt_220 (tgt := 144) rfl rfl (sg_Rz (vz_isDigit ..)) (fun (h44 : (v_isDigit ((sg_g σ 89 (v4)))) = 0) => ?_) (fun (h44 : ¬ (v_isDigit ((sg_g σ 89 (v4)))) = 0) => ?_)
              ·
                have w := w.1 h44
                refine wk_b tt_220 1 (pc' := 145) (ls' := [(5, .inr (.inl (0))), (4, .inl (v4)), (3, .inl ((sg_g σ 89 (v4)))), (0, .inr (.inr (.ref 88))), (1, .inl (v4)), (2, .inl (v5))]) (st' := [.inl ((sg_g σ 89 (v4)))]) (σ' := σ6) rfl ?_
                refine wk_callp tt_220 rfl rfl rfl rfl rfl tt_263 rfl (by decide) (w_isLetter z σ6 ((sg_g σ 89 (v4))) (sg_Rg _ _ _) ) ?_
                refine wk_if tt_220 (tgt := 272) rfl rfl (sg_Rz (vz_isLetter ..)) (fun (h45 : (v_isLetter ((sg_g σ 89 (v4)))) = 0) => ?_) (fun (h45 : ¬ (v_isLetter ((sg_g σ 89 (v4)))) = 0) => ?_)
                ·
                  have w := w.1 h45
                  obtain ⟨c46, w⟩ := w
                  refine wk_b tt_220 2 (pc' := 276) (ls' := [(1, .inl ((v4 + 1))), (5, .inr (.inl (0))), (4, .inl (v4)), (3, .inl ((sg_g σ 89 (v4)))), (0, .inr (.inr (.ref 88))), (2, .inl (v5))]) (st' := [.inl ((sg_g σ 89 (v4)))]) (σ' := σ6) rfl ?_
                  refine wk_callp tt_220 rfl rfl rfl rfl rfl tt_267 rfl (by decide) (w_isSign z σ6 ((sg_g σ 89 (v4))) (sg_Rg _ _ _) ) ?_
                  refine wk_b tt_220 3 (pc' := 282) (ls' := [(2, .inl ((v_isSign ((sg_g σ 89 (v4)))))), (1, .inl ((v4 + 1))), (5, .inr (.inl (0))), (4, .inl (v4)), (3, .inl ((sg_g σ 89 (v4)))), (0, .inr (.inr (.ref 88)))]) (st' := [.inl ((v_isSign ((sg_g σ 89 (v4))))), .inr (.inr (.ref 88))]) (σ' := σ6) rfl ?_
                  have jn48 : ∀ v49 : Int, v49 = (if (v_isSign ((sg_g σ 89 (v4)))) = 0 then (4 : Int) else (3 : Int)) → sg_R v49 → wx z 2 220 290 [(0, .inr (.inr (.ref 88))), (1, .inl ((v4 + 1))), (2, .inl ((v_isSign ((sg_g σ 89 (v4)))))), (3, .inl ((sg_g σ 89 (v4)))), (4, .inl (v4))] [.inl (v49), .inr (.inr (.ref 88))] σ6 (fun v σ' => v = none ∧ sg_F [90, 91, 92, 4088] σ σ' ∧ Q σ') := by
                    intro v49 e51 r50
                    have w := w v49 e51 r50
                    refine wk_b tt_220 3 (pc' := 294) (ls' := [(0, .inr (.inr (.ref 88))), (1, .inl ((v4 + 1))), (2, .inl ((v_isSign ((sg_g σ 89 (v4)))))), (3, .inl ((sg_g σ 89 (v4)))), (4, .inl (v4))]) (st' := [.inr (.inl ((sg_n ((sg_g σ 89 (v4)))))), .inl (v4), .inl (v49), .inr (.inr (.ref 88))]) (σ' := σ6) rfl ?_
                    rw [show (sg_n ((sg_g σ 89 (v4)))) = (sg_g σ 89 (v4)) from by rw [sg_id (sg_Rg _ _ _)]]
                    refine wk_call tt_220 rfl rfl rfl rfl rfl tt_331 rfl (by decide) (w_token z σ6 (v49) (v4) ((sg_g σ 89 (v4))) _ r50 r11 (sg_Rgl2 (sg_Rg _ _ _)) w) (fun u57 σ53 hq55 => ?_)
                    obtain ⟨rfl, hF54, w⟩ := hq55
                    have w := w hF54
                    exact wk_ls [(0, .inr (.inr (.ref 88))), (1, .inl ((v4 + 1))), (2, .inl ((v_isSign ((sg_g σ 89 (v4))))))] rfl ⟨rfl, rfl, rfl, trivial⟩ (jn32 ((v4 + 1)) ((v_isSign ((sg_g σ 89 (v4))))) σ53 c46 (sg_Rz (vz_isSign ..)) (sg_F_t (sg_F_r [90, 91, 92, 4088] σ6) (sg_F_m (L := [90, 91, 92, 4088]) hF54 rfl)) w)
                  refine wk_if tt_220 (tgt := 289) rfl rfl (sg_Rz (vz_isSign ..)) (fun (h47 : (v_isSign ((sg_g σ 89 (v4)))) = 0) => ?_) (fun (h47 : ¬ (v_isSign ((sg_g σ 89 (v4)))) = 0) => ?_)
                  ·
                    clear w
                    refine wk_b tt_220 1 (pc' := 290) (ls' := [(2, .inl ((v_isSign ((sg_g σ 89 (v4)))))), (1, .inl ((v4 + 1))), (5, .inr (.inl (0))), (4, .inl (v4)), (3, .inl ((sg_g σ 89 (v4)))), (0, .inr (.inr (.ref 88)))]) (st' := [.inl (4), .inr (.inr (.ref 88))]) (σ' := σ6) rfl ?_
                    exact wk_ls [(0, .inr (.inr (.ref 88))), (1, .inl ((v4 + 1))), (2, .inl ((v_isSign ((sg_g σ 89 (v4)))))), (3, .inl ((sg_g σ 89 (v4)))), (4, .inl (v4))] rfl ⟨rfl, rfl, rfl, rfl, rfl, trivial⟩ (jn48 (4) (by simp only [if_pos h47]) (by decide))
                  ·
                    clear w
                    refine wk_b tt_220 2 (pc' := 290) (ls' := [(2, .inl ((v_isSign ((sg_g σ 89 (v4)))))), (1, .inl ((v4 + 1))), (5, .inr (.inl (0))), (4, .inl (v4)), (3, .inl ((sg_g σ 89 (v4)))), (0, .inr (.inr (.ref 88)))]) (st' := [.inl (3), .inr (.inr (.ref 88))]) (σ' := σ6) rfl ?_
                    exact wk_ls [(0, .inr (.inr (.ref 88))), (1, .inl ((v4 + 1))), (2, .inl ((v_isSign ((sg_g σ 89 (v4)))))), (3, .inl ((sg_g σ 89 (v4)))), (4, .inl (v4))] rfl ⟨rfl, rfl, rfl, rfl, rfl, trivial⟩ (jn48 (3) (by simp only [if_neg (show ¬ ((v_isSign ((sg_g σ 89 (v4)))) = 0) by omega)]) (by decide))
                ·
                  have w := w.2 h45
                  obtain ⟨I62, X64, ⟨μ63, w70⟩, w71, w72⟩ := w
                  have ex74 : ∀ (v58 : Int) (v59 : Int), sg_R v58 → sg_RL v59 → X64 v58 v59 → wx z 2 220 237 [(0, .inr (.inr (.ref 88))), (1, .inl (v58)), (4, .inl (v4)), (5, .inr (.inl (v59)))] [] σ6 (fun v σ' => v = none ∧ sg_F [90, 91, 92, 4088] σ σ' ∧ Q σ') := by
                    intro v58 v59 r65 r66 w
                    have w := w72 v58 v59 r65 r66 w
                    obtain ⟨c75, w⟩ := w
                    refine wk_b tt_220 4 (pc' := 243) (ls' := [(0, .inr (.inr (.ref 88))), (1, .inl (v58)), (4, .inl (v4)), (5, .inr (.inl (v59)))]) (st' := [.inl (9), .inl ((v58 - v4))]) (σ' := σ6) rfl ?_
                    have jn77 : ∀ v78 : Int, v78 = (if 9 ≤ (v58 - v4) then (0 : Int) else (1 : Int)) → sg_R v78 → wx z 2 220 251 [(0, .inr (.inr (.ref 88))), (1, .inl (v58)), (4, .inl (v4)), (5, .inr (.inl (v59)))] [.inl (v78)] σ6 (fun v σ' => v = none ∧ sg_F [90, 91, 92, 4088] σ σ' ∧ Q σ') := by
                      intro v78 e80 r79
                      have w := w v78 e80 r79
                      refine wk_b tt_220 3 (pc' := 254) (ls' := [(2, .inl (v78)), (0, .inr (.inr (.ref 88))), (1, .inl (v58)), (4, .inl (v4)), (5, .inr (.inl (v59)))]) (st' := [.inl (v78), .inr (.inr (.ref 88))]) (σ' := σ6) rfl ?_
                      have jn82 : ∀ v83 : Int, v83 = (if v78 = 0 then (4 : Int) else (2 : Int)) → sg_R v83 → wx z 2 220 262 [(0, .inr (.inr (.ref 88))), (1, .inl (v58)), (2, .inl (v78)), (4, .inl (v4)), (5, .inr (.inl (v59)))] [.inl (v83), .inr (.inr (.ref 88))] σ6 (fun v σ' => v = none ∧ sg_F [90, 91, 92, 4088] σ σ' ∧ Q σ') := by
                        intro v83 e85 r84
                        have w := w v83 e85 r84
                        refine wk_b tt_220 2 (pc' := 266) (ls' := [(0, .inr (.inr (.ref 88))), (1, .inl (v58)), (2, .inl (v78)), (4, .inl (v4)), (5, .inr (.inl (v59)))]) (st' := [.inr (.inl (v59)), .inl (v4), .inl (v83), .inr (.inr (.ref 88))]) (σ' := σ6) rfl ?_
                        refine wk_call tt_220 rfl rfl rfl rfl rfl tt_331 rfl (by decide) (w_token z σ6 (v83) (v4) (v59) _ r84 r11 r66 w) (fun u91 σ87 hq89 => ?_)
                        obtain ⟨rfl, hF88, w⟩ := hq89
                        have w := w hF88
                        refine wk_b tt_220 1 (pc' := 297) (ls' := [(0, .inr (.inr (.ref 88))), (1, .inl (v58)), (2, .inl (v78)), (4, .inl (v4)), (5, .inr (.inl (v59)))]) (st' := []) (σ' := σ87) rfl ?_
                        exact wk_ls [(0, .inr (.inr (.ref 88))), (1, .inl (v58)), (2, .inl (v78))] rfl ⟨rfl, rfl, rfl, trivial⟩ (jn32 (v58) (v78) σ87 r65 r79 (sg_F_t (sg_F_r [90, 91, 92, 4088] σ6) (sg_F_m (L := [90, 91, 92, 4088]) hF88 rfl)) w)
                      refine wk_if tt_220 (tgt := 261) rfl rfl r79 (fun (h81 : v78 = 0) => ?_) (fun (h81 : ¬ v78 = 0) => ?_)
                      ·
                        clear w
                        refine wk_b tt_220 1 (pc' := 262) (ls' := [(2, .inl (v78)), (0, .inr (.inr (.ref 88))), (1, .inl (v58)), (4, .inl (v4)), (5, .inr (.inl (v59)))]) (st' := [.inl (4), .inr (.inr (.ref 88))]) (σ' := σ6) rfl ?_
                        exact wk_ls [(0, .inr (.inr (.ref 88))), (1, .inl (v58)), (2, .inl (v78)), (4, .inl (v4)), (5, .inr (.inl (v59)))] rfl ⟨rfl, rfl, rfl, rfl, rfl, trivial⟩ (jn82 (4) (by simp only [if_pos h81]) (by decide))
                      ·
                        clear w
                        refine wk_b tt_220 2 (pc' := 262) (ls' := [(2, .inl (v78)), (0, .inr (.inr (.ref 88))), (1, .inl (v58)), (4, .inl (v4)), (5, .inr (.inl (v59)))]) (st' := [.inl (2), .inr (.inr (.ref 88))]) (σ' := σ6) rfl ?_
                        exact wk_ls [(0, .inr (.inr (.ref 88))), (1, .inl (v58)), (2, .inl (v78)), (4, .inl (v4)), (5, .inr (.inl (v59)))] rfl ⟨rfl, rfl, rfl, rfl, rfl, trivial⟩ (jn82 (2) (by simp only [if_neg (show ¬ (v78 = 0) by omega)]) (by decide))
                    refine wk_if2 tt_220 (tgt := 250) rfl rfl c75 (by decide) (fun (h76 : 9 ≤ (v58 - v4)) => ?_) (fun (h76 : (v58 - v4) < 9) => ?_)
                    ·
                      clear w
                      refine wk_b tt_220 1 (pc' := 251) (ls' := [(0, .inr (.inr (.ref 88))), (1, .inl (v58)), (4, .inl (v4)), (5, .inr (.inl (v59)))]) (st' := [.inl (0)]) (σ' := σ6) rfl ?_
                      exact wk_ls [(0, .inr (.inr (.ref 88))), (1, .inl (v58)), (4, .inl (v4)), (5, .inr (.inl (v59)))] rfl ⟨rfl, rfl, rfl, rfl, trivial⟩ (jn77 (0) (by simp only [if_pos h76]) (by decide))
                    ·
                      clear w
                      refine wk_b tt_220 2 (pc' := 251) (ls' := [(0, .inr (.inr (.ref 88))), (1, .inl (v58)), (4, .inl (v4)), (5, .inr (.inl (v59)))]) (st' := [.inl (1)]) (σ' := σ6) rfl ?_
                      exact wk_ls [(0, .inr (.inr (.ref 88))), (1, .inl (v58)), (4, .inl (v4)), (5, .inr (.inl (v59)))] rfl ⟨rfl, rfl, rfl, rfl, trivial⟩ (jn77 (1) (by simp only [if_neg (show ¬ (9 ≤ (v58 - v4)) by omega)]) (by decide))
                  have lp69 : ∀ (n73 : Nat) (v58 : Int) (v59 : Int), sg_R v58 → sg_RL v59 → I62 n73 v58 v59 → wx z 2 220 151 [(0, .inr (.inr (.ref 88))), (1, .inl (v58)), (4, .inl (v4)), (5, .inr (.inl (v59)))] [] σ6 (fun v σ' => v = none ∧ sg_F [90, 91, 92, 4088] σ σ' ∧ Q σ') := by
                    intro n73
                    induction n73 using Nat.strongRecOn with
                    | _ n73 ih67 =>
                      intro v58 v59 r65 r66 w
                      have w := w71 n73 v58 v59 r65 r66 w
                      refine wk_b tt_220 2 (pc' := 153) (ls' := [(0, .inr (.inr (.ref 88))), (1, .inl (v58)), (4, .inl (v4)), (5, .inr (.inl (v59)))]) (st' := [.inl (v58), .inr (.inr (.ref 88))]) (σ' := σ6) rfl ?_
                      obtain ⟨c92, w⟩ := w
                      have c92 : p_byteOf σ6 (v58) := by
                        rw [pF_byteOf hF7 rfl rfl, pF_byteOf hF3 rfl rfl]; exact c92
                      refine wk_callp tt_220 rfl rfl rfl rfl rfl tt_216 rfl (by decide) (w_byteOf z σ6 (v58) r65 c92) ?_
                      rw [vF_byteOf hF7 rfl rfl, vF_byteOf hF3 rfl rfl]
                      have r93 := vr_byteOf σ  (v58) r65 (by have q := c92; rw [pF_byteOf hF7 rfl rfl, pF_byteOf hF3 rfl rfl] at q; exact q)
                      refine wk_callp tt_220 rfl rfl rfl rfl rfl tt_263 rfl (by decide) (w_isLetter z σ6 ((v_byteOf σ (v58))) r93 ) ?_
                      refine wk_if tt_220 (tgt := 173) rfl rfl (sg_Rz (vz_isLetter ..)) (fun (h94 : ¬ (v_isLetter ((v_byteOf σ (v58)))) = 0) => ?_) (fun (h94 : (v_isLetter ((v_byteOf σ (v58)))) = 0) => ?_)
                      ·
                        have w := w.1 h94
                        refine wk_b tt_220 2 (pc' := 175) (ls' := [(0, .inr (.inr (.ref 88))), (1, .inl (v58)), (4, .inl (v4)), (5, .inr (.inl (v59)))]) (st' := [.inl (v58), .inr (.inr (.ref 88))]) (σ' := σ6) rfl ?_
                        obtain ⟨c95, w⟩ := w
                        have c95 : p_byteOf σ6 (v58) := by
                          rw [pF_byteOf hF7 rfl rfl, pF_byteOf hF3 rfl rfl]; exact c95
                        refine wk_callp tt_220 rfl rfl rfl rfl rfl tt_216 rfl (by decide) (w_byteOf z σ6 (v58) r65 c95) ?_
                        rw [vF_byteOf hF7 rfl rfl, vF_byteOf hF3 rfl rfl]
                        have r96 := vr_byteOf σ  (v58) r65 (by have q := c95; rw [pF_byteOf hF7 rfl rfl, pF_byteOf hF3 rfl rfl] at q; exact q)
                        refine wk_callp tt_220 rfl rfl rfl rfl rfl tt_263 rfl (by decide) (w_isLetter z σ6 ((v_byteOf σ (v58))) r96 ) ?_
                        obtain ⟨wp, w⟩ := w
                        have jn98 : ∀ v99 : Int, v99 = (if (v_isLetter ((v_byteOf σ (v58)))) = 0 then ((v_byteOf σ (v58)) - 21) else ((v_byteOf σ (v58)) - 96)) → sg_R v99 → wx z 2 220 203 [(0, .inr (.inr (.ref 88))), (1, .inl (v58)), (4, .inl (v4)), (5, .inr (.inl (v59)))] [.inl (v99)] σ6 (fun v σ' => v = none ∧ sg_F [90, 91, 92, 4088] σ σ' ∧ Q σ') := by
                          intro v99 e101 r100
                          have w := w v99 e101 r100
                          obtain ⟨c102, w⟩ := w
                          refine wk_b tt_220 5 (pc' := 211) (ls' := [(7, .inl (v99)), (0, .inr (.inr (.ref 88))), (1, .inl (v58)), (4, .inl (v4)), (5, .inr (.inl (v59)))]) (st' := [.inl (8), .inl ((v58 - v4))]) (σ' := σ6) rfl ?_
                          obtain ⟨wp, w⟩ := w
                          have jn104 : ∀ v105 : Int, v105 = (if 8 ≤ (v58 - v4) then v59 else ((40 * v59) + v99)) → sg_RL v105 → wx z 2 220 229 [(0, .inr (.inr (.ref 88))), (1, .inl (v58)), (4, .inl (v4))] [.inr (.inl (v105))] σ6 (fun v σ' => v = none ∧ sg_F [90, 91, 92, 4088] σ σ' ∧ Q σ') := by
                            intro v105 e107 r106
                            have w := w v105 e107 r106
                            obtain ⟨c108, w⟩ := w
                            refine wk_b tt_220 3 (pc' := 151) (ls' := [(1, .inl ((v58 + 1))), (5, .inr (.inl (v105))), (0, .inr (.inr (.ref 88))), (4, .inl (v4))]) (st' := []) (σ' := σ6) rfl ?_
                            obtain ⟨m109, hm109, w⟩ := w
                            exact wk_ls [(0, .inr (.inr (.ref 88))), (1, .inl ((v58 + 1))), (4, .inl (v4)), (5, .inr (.inl (v105)))] rfl ⟨rfl, rfl, rfl, rfl, trivial⟩ (ih67 m109 hm109 ((v58 + 1)) (v105)  c108 r106  w)
                          have w := wp
                          refine wk_if2 tt_220 (tgt := 227) rfl rfl c102 (by decide) (fun (h103 : 8 ≤ (v58 - v4)) => ?_) (fun (h103 : (v58 - v4) < 8) => ?_)
                          ·
                            have w := w.1 h103
                            refine wk_b tt_220 1 (pc' := 229) (ls' := [(7, .inl (v99)), (0, .inr (.inr (.ref 88))), (1, .inl (v58)), (4, .inl (v4)), (5, .inr (.inl (v59)))]) (st' := [.inr (.inl (v59))]) (σ' := σ6) rfl ?_
                            exact wk_ls [(0, .inr (.inr (.ref 88))), (1, .inl (v58)), (4, .inl (v4))] rfl ⟨rfl, rfl, rfl, trivial⟩ (jn104 (v59) (by simp only [if_pos h103]) r66)
                          ·
                            have w := w.2 h103
                            obtain ⟨c110, w⟩ := w
                            obtain ⟨c111, w⟩ := w
                            refine wk_b tt_220 7 (pc' := 229) (ls' := [(7, .inl (v99)), (0, .inr (.inr (.ref 88))), (1, .inl (v58)), (4, .inl (v4)), (5, .inr (.inl (v59)))]) (st' := [.inr (.inl (((40 * v59) + (sg_n (v99)))))]) (σ' := σ6) rfl ?_
                            rw [show (sg_n (v99)) = v99 from by rw [sg_id r100]]
                            exact wk_ls [(0, .inr (.inr (.ref 88))), (1, .inl (v58)), (4, .inl (v4))] rfl ⟨rfl, rfl, rfl, trivial⟩ (jn104 (((40 * v59) + v99)) (by simp only [if_neg (show ¬ (8 ≤ (v58 - v4)) by omega)]) c111)
                        have w := wp
                        refine wk_if tt_220 (tgt := 195) rfl rfl (sg_Rz (vz_isLetter ..)) (fun (h97 : (v_isLetter ((v_byteOf σ (v58)))) = 0) => ?_) (fun (h97 : ¬ (v_isLetter ((v_byteOf σ (v58)))) = 0) => ?_)
                        ·
                          have w := w.1 h97
                          refine wk_b tt_220 2 (pc' := 197) (ls' := [(0, .inr (.inr (.ref 88))), (1, .inl (v58)), (4, .inl (v4)), (5, .inr (.inl (v59)))]) (st' := [.inl (v58), .inr (.inr (.ref 88))]) (σ' := σ6) rfl ?_
                          obtain ⟨c112, w⟩ := w
                          have c112 : p_byteOf σ6 (v58) := by
                            rw [pF_byteOf hF7 rfl rfl, pF_byteOf hF3 rfl rfl]; exact c112
                          refine wk_callp tt_220 rfl rfl rfl rfl rfl tt_216 rfl (by decide) (w_byteOf z σ6 (v58) r65 c112) ?_
                          rw [vF_byteOf hF7 rfl rfl, vF_byteOf hF3 rfl rfl]
                          have r113 := vr_byteOf σ  (v58) r65 (by have q := c112; rw [pF_byteOf hF7 rfl rfl, pF_byteOf hF3 rfl rfl] at q; exact q)
                          obtain ⟨c114, w⟩ := w
                          refine wk_b tt_220 2 (pc' := 203) (ls' := [(0, .inr (.inr (.ref 88))), (1, .inl (v58)), (4, .inl (v4)), (5, .inr (.inl (v59)))]) (st' := [.inl (((v_byteOf σ (v58)) - 21))]) (σ' := σ6) rfl ?_
                          exact wk_ls [(0, .inr (.inr (.ref 88))), (1, .inl (v58)), (4, .inl (v4)), (5, .inr (.inl (v59)))] rfl ⟨rfl, rfl, rfl, rfl, trivial⟩ (jn98 (((v_byteOf σ (v58)) - 21)) (by simp only [if_pos h97]) c114)
                        ·
                          have w := w.2 h97
                          refine wk_b tt_220 2 (pc' := 186) (ls' := [(0, .inr (.inr (.ref 88))), (1, .inl (v58)), (4, .inl (v4)), (5, .inr (.inl (v59)))]) (st' := [.inl (v58), .inr (.inr (.ref 88))]) (σ' := σ6) rfl ?_
                          obtain ⟨c115, w⟩ := w
                          have c115 : p_byteOf σ6 (v58) := by
                            rw [pF_byteOf hF7 rfl rfl, pF_byteOf hF3 rfl rfl]; exact c115
                          refine wk_callp tt_220 rfl rfl rfl rfl rfl tt_216 rfl (by decide) (w_byteOf z σ6 (v58) r65 c115) ?_
                          rw [vF_byteOf hF7 rfl rfl, vF_byteOf hF3 rfl rfl]
                          have r116 := vr_byteOf σ  (v58) r65 (by have q := c115; rw [pF_byteOf hF7 rfl rfl, pF_byteOf hF3 rfl rfl] at q; exact q)
                          obtain ⟨c117, w⟩ := w
                          refine wk_b tt_220 3 (pc' := 203) (ls' := [(0, .inr (.inr (.ref 88))), (1, .inl (v58)), (4, .inl (v4)), (5, .inr (.inl (v59)))]) (st' := [.inl (((v_byteOf σ (v58)) - 96))]) (σ' := σ6) rfl ?_
                          exact wk_ls [(0, .inr (.inr (.ref 88))), (1, .inl (v58)), (4, .inl (v4)), (5, .inr (.inl (v59)))] rfl ⟨rfl, rfl, rfl, rfl, trivial⟩ (jn98 (((v_byteOf σ (v58)) - 96)) (by simp only [if_neg (show ¬ ((v_isLetter ((v_byteOf σ (v58)))) = 0) by omega)]) c117)
                      ·
                        have w := w.2 h94
                        refine wk_b tt_220 2 (pc' := 164) (ls' := [(0, .inr (.inr (.ref 88))), (1, .inl (v58)), (4, .inl (v4)), (5, .inr (.inl (v59)))]) (st' := [.inl (v58), .inr (.inr (.ref 88))]) (σ' := σ6) rfl ?_
                        obtain ⟨c118, w⟩ := w
                        have c118 : p_byteOf σ6 (v58) := by
                          rw [pF_byteOf hF7 rfl rfl, pF_byteOf hF3 rfl rfl]; exact c118
                        refine wk_callp tt_220 rfl rfl rfl rfl rfl tt_216 rfl (by decide) (w_byteOf z σ6 (v58) r65 c118) ?_
                        rw [vF_byteOf hF7 rfl rfl, vF_byteOf hF3 rfl rfl]
                        have r119 := vr_byteOf σ  (v58) r65 (by have q := c118; rw [pF_byteOf hF7 rfl rfl, pF_byteOf hF3 rfl rfl] at q; exact q)
                        refine wk_callp tt_220 rfl rfl rfl rfl rfl tt_261 rfl (by decide) (w_isDigit z σ6 ((v_byteOf σ (v58))) r119 ) ?_
                        refine wk_if tt_220 (tgt := 237) rfl rfl (sg_Rz (vz_isDigit ..)) (fun (h120 : (v_isDigit ((v_byteOf σ (v58)))) = 0) => ?_) (fun (h120 : ¬ (v_isDigit ((v_byteOf σ (v58)))) = 0) => ?_)
                        ·
                          have w := w.1 h120
                          exact wk_ls [(0, .inr (.inr (.ref 88))), (1, .inl (v58)), (4, .inl (v4)), (5, .inr (.inl (v59)))] rfl ⟨rfl, rfl, rfl, rfl, trivial⟩ (ex74 (v58) (v59)  r65 r66  w)
                        ·
                          have w := w.2 h120
                          refine wk_b tt_220 2 (pc' := 175) (ls' := [(0, .inr (.inr (.ref 88))), (1, .inl (v58)), (4, .inl (v4)), (5, .inr (.inl (v59)))]) (st' := [.inl (v58), .inr (.inr (.ref 88))]) (σ' := σ6) rfl ?_
                          obtain ⟨c121, w⟩ := w
                          have c121 : p_byteOf σ6 (v58) := by
                            rw [pF_byteOf hF7 rfl rfl, pF_byteOf hF3 rfl rfl]; exact c121
                          refine wk_callp tt_220 rfl rfl rfl rfl rfl tt_216 rfl (by decide) (w_byteOf z σ6 (v58) r65 c121) ?_
                          rw [vF_byteOf hF7 rfl rfl, vF_byteOf hF3 rfl rfl]
                          have r122 := vr_byteOf σ  (v58) r65 (by have q := c121; rw [pF_byteOf hF7 rfl rfl, pF_byteOf hF3 rfl rfl] at q; exact q)
                          refine wk_callp tt_220 rfl rfl rfl rfl rfl tt_263 rfl (by decide) (w_isLetter z σ6 ((v_byteOf σ (v58))) r122 ) ?_
                          obtain ⟨wp, w⟩ := w
                          have jn124 : ∀ v125 : Int, v125 = (if (v_isLetter ((v_byteOf σ (v58)))) = 0 then ((v_byteOf σ (v58)) - 21) else ((v_byteOf σ (v58)) - 96)) → sg_R v125 → wx z 2 220 203 [(0, .inr (.inr (.ref 88))), (1, .inl (v58)), (4, .inl (v4)), (5, .inr (.inl (v59)))] [.inl (v125)] σ6 (fun v σ' => v = none ∧ sg_F [90, 91, 92, 4088] σ σ' ∧ Q σ') := by
                            intro v125 e127 r126
                            have w := w v125 e127 r126
                            obtain ⟨c128, w⟩ := w
                            refine wk_b tt_220 5 (pc' := 211) (ls' := [(7, .inl (v125)), (0, .inr (.inr (.ref 88))), (1, .inl (v58)), (4, .inl (v4)), (5, .inr (.inl (v59)))]) (st' := [.inl (8), .inl ((v58 - v4))]) (σ' := σ6) rfl ?_
                            obtain ⟨wp, w⟩ := w
                            have jn130 : ∀ v131 : Int, v131 = (if 8 ≤ (v58 - v4) then v59 else ((40 * v59) + v125)) → sg_RL v131 → wx z 2 220 229 [(0, .inr (.inr (.ref 88))), (1, .inl (v58)), (4, .inl (v4))] [.inr (.inl (v131))] σ6 (fun v σ' => v = none ∧ sg_F [90, 91, 92, 4088] σ σ' ∧ Q σ') := by
                              intro v131 e133 r132
                              have w := w v131 e133 r132
                              obtain ⟨c134, w⟩ := w
                              refine wk_b tt_220 3 (pc' := 151) (ls' := [(1, .inl ((v58 + 1))), (5, .inr (.inl (v131))), (0, .inr (.inr (.ref 88))), (4, .inl (v4))]) (st' := []) (σ' := σ6) rfl ?_
                              obtain ⟨m135, hm135, w⟩ := w
                              exact wk_ls [(0, .inr (.inr (.ref 88))), (1, .inl ((v58 + 1))), (4, .inl (v4)), (5, .inr (.inl (v131)))] rfl ⟨rfl, rfl, rfl, rfl, trivial⟩ (ih67 m135 hm135 ((v58 + 1)) (v131)  c134 r132  w)
                            have w := wp
                            refine wk_if2 tt_220 (tgt := 227) rfl rfl c128 (by decide) (fun (h129 : 8 ≤ (v58 - v4)) => ?_) (fun (h129 : (v58 - v4) < 8) => ?_)
                            ·
                              have w := w.1 h129
                              refine wk_b tt_220 1 (pc' := 229) (ls' := [(7, .inl (v125)), (0, .inr (.inr (.ref 88))), (1, .inl (v58)), (4, .inl (v4)), (5, .inr (.inl (v59)))]) (st' := [.inr (.inl (v59))]) (σ' := σ6) rfl ?_
                              exact wk_ls [(0, .inr (.inr (.ref 88))), (1, .inl (v58)), (4, .inl (v4))] rfl ⟨rfl, rfl, rfl, trivial⟩ (jn130 (v59) (by simp only [if_pos h129]) r66)
                            ·
                              have w := w.2 h129
                              obtain ⟨c136, w⟩ := w
                              obtain ⟨c137, w⟩ := w
                              refine wk_b tt_220 7 (pc' := 229) (ls' := [(7, .inl (v125)), (0, .inr (.inr (.ref 88))), (1, .inl (v58)), (4, .inl (v4)), (5, .inr (.inl (v59)))]) (st' := [.inr (.inl (((40 * v59) + (sg_n (v125)))))]) (σ' := σ6) rfl ?_
                              rw [show (sg_n (v125)) = v125 from by rw [sg_id r126]]
                              exact wk_ls [(0, .inr (.inr (.ref 88))), (1, .inl (v58)), (4, .inl (v4))] rfl ⟨rfl, rfl, rfl, trivial⟩ (jn130 (((40 * v59) + v125)) (by simp only [if_neg (show ¬ (8 ≤ (v58 - v4)) by omega)]) c137)
                          have w := wp
                          refine wk_if tt_220 (tgt := 195) rfl rfl (sg_Rz (vz_isLetter ..)) (fun (h123 : (v_isLetter ((v_byteOf σ (v58)))) = 0) => ?_) (fun (h123 : ¬ (v_isLetter ((v_byteOf σ (v58)))) = 0) => ?_)
                          ·
                            have w := w.1 h123
                            refine wk_b tt_220 2 (pc' := 197) (ls' := [(0, .inr (.inr (.ref 88))), (1, .inl (v58)), (4, .inl (v4)), (5, .inr (.inl (v59)))]) (st' := [.inl (v58), .inr (.inr (.ref 88))]) (σ' := σ6) rfl ?_
                            obtain ⟨c138, w⟩ := w
                            have c138 : p_byteOf σ6 (v58) := by
                              rw [pF_byteOf hF7 rfl rfl, pF_byteOf hF3 rfl rfl]; exact c138
                            refine wk_callp tt_220 rfl rfl rfl rfl rfl tt_216 rfl (by decide) (w_byteOf z σ6 (v58) r65 c138) ?_
                            rw [vF_byteOf hF7 rfl rfl, vF_byteOf hF3 rfl rfl]
                            have r139 := vr_byteOf σ  (v58) r65 (by have q := c138; rw [pF_byteOf hF7 rfl rfl, pF_byteOf hF3 rfl rfl] at q; exact q)
                            obtain ⟨c140, w⟩ := w
                            refine wk_b tt_220 2 (pc' := 203) (ls' := [(0, .inr (.inr (.ref 88))), (1, .inl (v58)), (4, .inl (v4)), (5, .inr (.inl (v59)))]) (st' := [.inl (((v_byteOf σ (v58)) - 21))]) (σ' := σ6) rfl ?_
                            exact wk_ls [(0, .inr (.inr (.ref 88))), (1, .inl (v58)), (4, .inl (v4)), (5, .inr (.inl (v59)))] rfl ⟨rfl, rfl, rfl, rfl, trivial⟩ (jn124 (((v_byteOf σ (v58)) - 21)) (by simp only [if_pos h123]) c140)
                          ·
                            have w := w.2 h123
                            refine wk_b tt_220 2 (pc' := 186) (ls' := [(0, .inr (.inr (.ref 88))), (1, .inl (v58)), (4, .inl (v4)), (5, .inr (.inl (v59)))]) (st' := [.inl (v58), .inr (.inr (.ref 88))]) (σ' := σ6) rfl ?_
                            obtain ⟨c141, w⟩ := w
                            have c141 : p_byteOf σ6 (v58) := by
                              rw [pF_byteOf hF7 rfl rfl, pF_byteOf hF3 rfl rfl]; exact c141
                            refine wk_callp tt_220 rfl rfl rfl rfl rfl tt_216 rfl (by decide) (w_byteOf z σ6 (v58) r65 c141) ?_
                            rw [vF_byteOf hF7 rfl rfl, vF_byteOf hF3 rfl rfl]
                            have r142 := vr_byteOf σ  (v58) r65 (by have q := c141; rw [pF_byteOf hF7 rfl rfl, pF_byteOf hF3 rfl rfl] at q; exact q)
                            obtain ⟨c143, w⟩ := w
                            refine wk_b tt_220 3 (pc' := 203) (ls' := [(0, .inr (.inr (.ref 88))), (1, .inl (v58)), (4, .inl (v4)), (5, .inr (.inl (v59)))]) (st' := [.inl (((v_byteOf σ (v58)) - 96))]) (σ' := σ6) rfl ?_
                            exact wk_ls [(0, .inr (.inr (.ref 88))), (1, .inl (v58)), (4, .inl (v4)), (5, .inr (.inl (v59)))] rfl ⟨rfl, rfl, rfl, rfl, trivial⟩ (jn124 (((v_byteOf σ (v58)) - 96)) (by simp only [if_neg (show ¬ ((v_isLetter ((v_byteOf σ (v58)))) = 0) by omega)]) c143)
                  exact wk_ls [(0, .inr (.inr (.ref 88))), (1, .inl (v4)), (4, .inl (v4)), (5, .inr (.inl (0)))] rfl ⟨rfl, rfl, rfl, rfl, trivial⟩ (lp69 μ63 (v4) (0)  r11 (by decide)  w70)
              ·
                have w := w.2 h44
                obtain ⟨I148, X150, ⟨μ149, w156⟩, w157, w158⟩ := w
                have ex160 : ∀ (v144 : Int) (v145 : Int), sg_R v144 → sg_RL v145 → X150 v144 v145 → wx z 2 220 109 [(0, .inr (.inr (.ref 88))), (1, .inl (v144)), (4, .inl (v4)), (5, .inr (.inl (v145)))] [] σ6 (fun v σ' => v = none ∧ sg_F [90, 91, 92, 4088] σ σ' ∧ Q σ') := by
                  intro v144 v145 r151 r152 w
                  have w := w158 v144 v145 r151 r152 w
                  obtain ⟨c161, w⟩ := w
                  refine wk_b tt_220 4 (pc' := 115) (ls' := [(0, .inr (.inr (.ref 88))), (1, .inl (v144)), (4, .inl (v4)), (5, .inr (.inl (v145)))]) (st' := [.inl (10), .inl ((v144 - v4))]) (σ' := σ6) rfl ?_
                  have jn163 : ∀ v164 : Int, v164 = (if 10 ≤ (v144 - v4) then (0 : Int) else (1 : Int)) → sg_R v164 → wx z 2 220 123 [(0, .inr (.inr (.ref 88))), (1, .inl (v144)), (4, .inl (v4)), (5, .inr (.inl (v145)))] [.inl (v164)] σ6 (fun v σ' => v = none ∧ sg_F [90, 91, 92, 4088] σ σ' ∧ Q σ') := by
                    intro v164 e166 r165
                    have w := w v164 e166 r165
                    refine wk_b tt_220 3 (pc' := 126) (ls' := [(2, .inl (v164)), (0, .inr (.inr (.ref 88))), (1, .inl (v144)), (4, .inl (v4)), (5, .inr (.inl (v145)))]) (st' := [.inl (v164), .inr (.inr (.ref 88))]) (σ' := σ6) rfl ?_
                    have jn168 : ∀ v169 : Int, v169 = (if v164 = 0 then (4 : Int) else (1 : Int)) → sg_R v169 → wx z 2 220 134 [(0, .inr (.inr (.ref 88))), (1, .inl (v144)), (2, .inl (v164)), (4, .inl (v4)), (5, .inr (.inl (v145)))] [.inl (v169), .inr (.inr (.ref 88))] σ6 (fun v σ' => v = none ∧ sg_F [90, 91, 92, 4088] σ σ' ∧ Q σ') := by
                      intro v169 e171 r170
                      have w := w v169 e171 r170
                      refine wk_b tt_220 2 (pc' := 138) (ls' := [(0, .inr (.inr (.ref 88))), (1, .inl (v144)), (2, .inl (v164)), (4, .inl (v4)), (5, .inr (.inl (v145)))]) (st' := [.inr (.inl (v145)), .inl (v4), .inl (v169), .inr (.inr (.ref 88))]) (σ' := σ6) rfl ?_
                      refine wk_call tt_220 rfl rfl rfl rfl rfl tt_331 rfl (by decide) (w_token z σ6 (v169) (v4) (v145) _ r170 r11 r152 w) (fun u177 σ173 hq175 => ?_)
                      obtain ⟨rfl, hF174, w⟩ := hq175
                      have w := w hF174
                      refine wk_b tt_220 1 (pc' := 297) (ls' := [(0, .inr (.inr (.ref 88))), (1, .inl (v144)), (2, .inl (v164)), (4, .inl (v4)), (5, .inr (.inl (v145)))]) (st' := []) (σ' := σ173) rfl ?_
                      exact wk_ls [(0, .inr (.inr (.ref 88))), (1, .inl (v144)), (2, .inl (v164))] rfl ⟨rfl, rfl, rfl, trivial⟩ (jn32 (v144) (v164) σ173 r151 r165 (sg_F_t (sg_F_r [90, 91, 92, 4088] σ6) (sg_F_m (L := [90, 91, 92, 4088]) hF174 rfl)) w)
                    refine wk_if tt_220 (tgt := 133) rfl rfl r165 (fun (h167 : v164 = 0) => ?_) (fun (h167 : ¬ v164 = 0) => ?_)
                    ·
                      clear w
                      refine wk_b tt_220 1 (pc' := 134) (ls' := [(2, .inl (v164)), (0, .inr (.inr (.ref 88))), (1, .inl (v144)), (4, .inl (v4)), (5, .inr (.inl (v145)))]) (st' := [.inl (4), .inr (.inr (.ref 88))]) (σ' := σ6) rfl ?_
                      exact wk_ls [(0, .inr (.inr (.ref 88))), (1, .inl (v144)), (2, .inl (v164)), (4, .inl (v4)), (5, .inr (.inl (v145)))] rfl ⟨rfl, rfl, rfl, rfl, rfl, trivial⟩ (jn168 (4) (by simp only [if_pos h167]) (by decide))
                    ·
                      clear w
                      refine wk_b tt_220 2 (pc' := 134) (ls' := [(2, .inl (v164)), (0, .inr (.inr (.ref 88))), (1, .inl (v144)), (4, .inl (v4)), (5, .inr (.inl (v145)))]) (st' := [.inl (1), .inr (.inr (.ref 88))]) (σ' := σ6) rfl ?_
                      exact wk_ls [(0, .inr (.inr (.ref 88))), (1, .inl (v144)), (2, .inl (v164)), (4, .inl (v4)), (5, .inr (.inl (v145)))] rfl ⟨rfl, rfl, rfl, rfl, rfl, trivial⟩ (jn168 (1) (by simp only [if_neg (show ¬ (v164 = 0) by omega)]) (by decide))
                  refine wk_if2 tt_220 (tgt := 122) rfl rfl c161 (by decide) (fun (h162 : 10 ≤ (v144 - v4)) => ?_) (fun (h162 : (v144 - v4) < 10) => ?_)
                  ·
                    clear w
                    refine wk_b tt_220 1 (pc' := 123) (ls' := [(0, .inr (.inr (.ref 88))), (1, .inl (v144)), (4, .inl (v4)), (5, .inr (.inl (v145)))]) (st' := [.inl (0)]) (σ' := σ6) rfl ?_
                    exact wk_ls [(0, .inr (.inr (.ref 88))), (1, .inl (v144)), (4, .inl (v4)), (5, .inr (.inl (v145)))] rfl ⟨rfl, rfl, rfl, rfl, trivial⟩ (jn163 (0) (by simp only [if_pos h162]) (by decide))
                  ·
                    clear w
                    refine wk_b tt_220 2 (pc' := 123) (ls' := [(0, .inr (.inr (.ref 88))), (1, .inl (v144)), (4, .inl (v4)), (5, .inr (.inl (v145)))]) (st' := [.inl (1)]) (σ' := σ6) rfl ?_
                    exact wk_ls [(0, .inr (.inr (.ref 88))), (1, .inl (v144)), (4, .inl (v4)), (5, .inr (.inl (v145)))] rfl ⟨rfl, rfl, rfl, rfl, trivial⟩ (jn163 (1) (by simp only [if_neg (show ¬ (10 ≤ (v144 - v4)) by omega)]) (by decide))
                have lp155 : ∀ (n159 : Nat) (v144 : Int) (v145 : Int), sg_R v144 → sg_RL v145 → I148 n159 v144 v145 → wx z 2 220 59 [(0, .inr (.inr (.ref 88))), (1, .inl (v144)), (4, .inl (v4)), (5, .inr (.inl (v145)))] [] σ6 (fun v σ' => v = none ∧ sg_F [90, 91, 92, 4088] σ σ' ∧ Q σ') := by
                  intro n159
                  induction n159 using Nat.strongRecOn with
                  | _ n159 ih153 =>
                    intro v144 v145 r151 r152 w
                    have w := w157 n159 v144 v145 r151 r152 w
                    refine wk_b tt_220 2 (pc' := 61) (ls' := [(0, .inr (.inr (.ref 88))), (1, .inl (v144)), (4, .inl (v4)), (5, .inr (.inl (v145)))]) (st' := [.inl (v144), .inr (.inr (.ref 88))]) (σ' := σ6) rfl ?_
                    obtain ⟨c178, w⟩ := w
                    have c178 : p_byteOf σ6 (v144) := by
                      rw [pF_byteOf hF7 rfl rfl, pF_byteOf hF3 rfl rfl]; exact c178
                    refine wk_callp tt_220 rfl rfl rfl rfl rfl tt_216 rfl (by decide) (w_byteOf z σ6 (v144) r151 c178) ?_
                    rw [vF_byteOf hF7 rfl rfl, vF_byteOf hF3 rfl rfl]
                    have r179 := vr_byteOf σ  (v144) r151 (by have q := c178; rw [pF_byteOf hF7 rfl rfl, pF_byteOf hF3 rfl rfl] at q; exact q)
                    refine wk_callp tt_220 rfl rfl rfl rfl rfl tt_261 rfl (by decide) (w_isDigit z σ6 ((v_byteOf σ (v144))) r179 ) ?_
                    refine wk_if tt_220 (tgt := 109) rfl rfl (sg_Rz (vz_isDigit ..)) (fun (h180 : (v_isDigit ((v_byteOf σ (v144)))) = 0) => ?_) (fun (h180 : ¬ (v_isDigit ((v_byteOf σ (v144)))) = 0) => ?_)
                    ·
                      have w := w.1 h180
                      exact wk_ls [(0, .inr (.inr (.ref 88))), (1, .inl (v144)), (4, .inl (v4)), (5, .inr (.inl (v145)))] rfl ⟨rfl, rfl, rfl, rfl, trivial⟩ (ex160 (v144) (v145)  r151 r152  w)
                    ·
                      have w := w.2 h180
                      obtain ⟨c181, w⟩ := w
                      refine wk_b tt_220 4 (pc' := 76) (ls' := [(0, .inr (.inr (.ref 88))), (1, .inl (v144)), (4, .inl (v4)), (5, .inr (.inl (v145)))]) (st' := [.inl (10), .inl ((v144 - v4))]) (σ' := σ6) rfl ?_
                      obtain ⟨wp, w⟩ := w
                      have jn183 : ∀ v184 : Int, v184 = (if 10 ≤ (v144 - v4) then v145 else (((10 * v145) + (v_byteOf σ (v144))) - 48)) → sg_RL v184 → wx z 2 220 101 [(0, .inr (.inr (.ref 88))), (1, .inl (v144)), (4, .inl (v4))] [.inr (.inl (v184))] σ6 (fun v σ' => v = none ∧ sg_F [90, 91, 92, 4088] σ σ' ∧ Q σ') := by
                        intro v184 e186 r185
                        have w := w v184 e186 r185
                        obtain ⟨c187, w⟩ := w
                        refine wk_b tt_220 3 (pc' := 59) (ls' := [(1, .inl ((v144 + 1))), (5, .inr (.inl (v184))), (0, .inr (.inr (.ref 88))), (4, .inl (v4))]) (st' := []) (σ' := σ6) rfl ?_
                        obtain ⟨m188, hm188, w⟩ := w
                        exact wk_ls [(0, .inr (.inr (.ref 88))), (1, .inl ((v144 + 1))), (4, .inl (v4)), (5, .inr (.inl (v184)))] rfl ⟨rfl, rfl, rfl, rfl, trivial⟩ (ih153 m188 hm188 ((v144 + 1)) (v184)  c187 r185  w)
                      have w := wp
                      refine wk_if2 tt_220 (tgt := 99) rfl rfl c181 (by decide) (fun (h182 : 10 ≤ (v144 - v4)) => ?_) (fun (h182 : (v144 - v4) < 10) => ?_)
                      ·
                        have w := w.1 h182
                        refine wk_b tt_220 1 (pc' := 101) (ls' := [(0, .inr (.inr (.ref 88))), (1, .inl (v144)), (4, .inl (v4)), (5, .inr (.inl (v145)))]) (st' := [.inr (.inl (v145))]) (σ' := σ6) rfl ?_
                        exact wk_ls [(0, .inr (.inr (.ref 88))), (1, .inl (v144)), (4, .inl (v4))] rfl ⟨rfl, rfl, rfl, trivial⟩ (jn183 (v145) (by simp only [if_pos h182]) r152)
                      ·
                        have w := w.2 h182
                        obtain ⟨c189, w⟩ := w
                        refine wk_b tt_220 5 (pc' := 87) (ls' := [(0, .inr (.inr (.ref 88))), (1, .inl (v144)), (4, .inl (v4)), (5, .inr (.inl (v145)))]) (st' := [.inl (v144), .inr (.inr (.ref 88)), .inr (.inl ((10 * v145)))]) (σ' := σ6) rfl ?_
                        obtain ⟨c190, w⟩ := w
                        have c190 : p_byteOf σ6 (v144) := by
                          rw [pF_byteOf hF7 rfl rfl, pF_byteOf hF3 rfl rfl]; exact c190
                        refine wk_callp tt_220 rfl rfl rfl rfl rfl tt_216 rfl (by decide) (w_byteOf z σ6 (v144) r151 c190) ?_
                        rw [vF_byteOf hF7 rfl rfl, vF_byteOf hF3 rfl rfl]
                        have r191 := vr_byteOf σ  (v144) r151 (by have q := c190; rw [pF_byteOf hF7 rfl rfl, pF_byteOf hF3 rfl rfl] at q; exact q)
                        obtain ⟨c192, w⟩ := w
                        obtain ⟨c193, w⟩ := w
                        refine wk_b tt_220 5 (pc' := 101) (ls' := [(0, .inr (.inr (.ref 88))), (1, .inl (v144)), (4, .inl (v4)), (5, .inr (.inl (v145)))]) (st' := [.inr (.inl ((((10 * v145) + (sg_n ((v_byteOf σ (v144))))) - 48)))]) (σ' := σ6) rfl ?_
                        rw [show (sg_n ((v_byteOf σ (v144)))) = (v_byteOf σ (v144)) from by rw [sg_id r191]]
                        exact wk_ls [(0, .inr (.inr (.ref 88))), (1, .inl (v144)), (4, .inl (v4))] rfl ⟨rfl, rfl, rfl, trivial⟩ (jn183 ((((10 * v145) + (v_byteOf σ (v144))) - 48)) (by simp only [if_neg (show ¬ (10 ≤ (v144 - v4)) by omega)]) c193)
                exact wk_ls [(0, .inr (.inr (.ref 88))), (1, .inl (v4)), (4, .inl (v4)), (5, .inr (.inl (0)))] rfl ⟨rfl, rfl, rfl, rfl, trivial⟩ (lp155 μ149 (v4) (0)  r11 (by decide)  w156)
            ·
              have w := w.2 h43
              obtain ⟨c194, w⟩ := w
              refine wk_b tt_220 2 (pc' := 297) (ls' := [(1, .inl ((v4 + 1))), (5, .inr (.inl (0))), (4, .inl (v4)), (3, .inl ((sg_g σ 89 (v4)))), (0, .inr (.inr (.ref 88))), (2, .inl (v5))]) (st' := []) (σ' := σ6) rfl ?_
              exact wk_ls [(0, .inr (.inr (.ref 88))), (1, .inl ((v4 + 1))), (2, .inl (v5))] rfl ⟨rfl, rfl, rfl, trivial⟩ (jn32 ((v4 + 1)) (v5) σ6 c194 r12 (sg_F_r [90, 91, 92, 4088] σ6) w)
  exact wk_ls [(0, .inr (.inr (.ref 88))), (1, .inl (0)), (2, .inl (1))] rfl ⟨rfl, rfl, rfl, trivial⟩ (lp15 μ9 (0) (1) σ1 (by decide) (by decide) (sg_F_r _ _) w16)
