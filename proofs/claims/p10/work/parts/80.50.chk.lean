/-! What the methods of Checker ask for. -/
theorem sx_R (σ : sg_S) (a : Nat) (n i : Int) : sg_R (sx_at σ a n i) := by
  unfold sx_at
  split
  · exact sg_Rg _ _ _
  · decide
theorem sx_Rl (σ : sg_S) (a : Nat) (n i : Int) : sg_RL (sx_atl σ a n i) := by
  unfold sx_atl
  split
  · exact sg_Rgl _ _ _
  · decide
theorem sx_F {L : List Nat} {σ σ1 : sg_S} (h : sg_F L σ σ1) {a : Nat} {n i : Int} (ha : sg_ca L a = true) (hc : a < 1000 := by decide) : sx_at σ1 a n i = sx_at σ a n i := by unfold sx_at; rw [sg_F_ga h ha hc]
theorem sx_Fl {L : List Nat} {σ σ1 : sg_S} (h : sg_F L σ σ1) {a : Nat} {n i : Int} (ha : sg_ca L a = true) (hc : a < 1000 := by decide) : sx_atl σ1 a n i = sx_atl σ a n i := by unfold sx_atl; rw [sg_F_gal h ha hc]
-- NestedVectors$Plan.add
def V_kpAdd (σ : sg_S) (a1 : Int) (a2 : Int) (Q : sg_S → Prop) : Prop := ∀ σ1, σ1 = (sx_put σ 29 1013 ((sg_g σ 28 6)) (a1)) → ∀ σ4, σ4 = (sx_put σ1 30 1013 ((sg_g σ 28 6)) (a2)) → ∀ σ7, σ7 = (sg_w σ4 28 6 ((sg_n ((sg_g σ 28 6) + 1)))) → ((a1 = 8 → ∀ σ11, σ11 = (sx_put σ7 32 200 (a2) ((sg_n ((sg_g σ 28 6) + 1)))) → Q σ11) ∧ (¬ a1 = 8 → ((¬ a1 = 10 → ((a1 = 9 → ∀ σ16, σ16 = (sx_put σ7 33 200 (a2) ((sg_n ((sg_g σ 28 6) + 1)))) → Q σ16) ∧ (¬ a1 = 9 → ((¬ a1 = 12 → Q σ7) ∧ (a1 = 12 → ∀ σ20, σ20 = (sx_put σ7 33 200 (a2) ((sg_n ((sg_g σ 28 6) + 1)))) → Q σ20))))) ∧ (a1 = 10 → ∀ σ23, σ23 = (sx_put σ7 32 200 (a2) ((sg_n ((sg_g σ 28 6) + 1)))) → Q σ23))))
set_option maxHeartbeats 4000000 in
set_option maxRecDepth 8000 in
theorem w_kpAdd (z : Value) (σ : sg_S) (a1 : Int) (a2 : Int) (Q : sg_S → Prop) (ra1 : sg_R a1) (ra2 : sg_R a2) (w : V_kpAdd σ a1 a2 Q) : wx z 1 193 0 [(0, .inr (.inr (.ref 28))), (1, .inl (a1)), (2, .inl (a2))] [] σ (fun v σ' => v = none ∧ sg_F [29, 30, 32, 33, 7028] σ σ' ∧ Q σ') := by
  unfold V_kpAdd at w
  refine wk_b tt_193 5 (pc' := 9) (ls' := [(0, .inr (.inr (.ref 28))), (1, .inl (a1)), (2, .inl (a2))]) (st' := [.inl (a1), .inl ((sg_g σ 28 6)), .inr (.inr (.ref 29))]) (σ' := σ) rfl ?_
  refine wk_callp tt_193 rfl rfl rfl rfl rfl tt_21 rfl (by decide) (pt_i0 z σ 29 1013 ((sg_g σ 28 6)) (a1) rfl (by decide) (sg_Rg _ _ _)) ?_
  show wx z 1 193 12 [(0, .inr (.inr (.ref 28))), (1, .inl (a1)), (2, .inl (a2))] [] (sx_put σ 29 1013 ((sg_g σ 28 6)) (a1)) (fun v σ' => v = none ∧ sg_F [29, 30, 32, 33, 7028] σ σ' ∧ Q σ')
  generalize hs2 : (sx_put σ 29 1013 ((sg_g σ 28 6)) (a1)) = σ1
  have w := w σ1 hs2.symm
  have hF3 : sg_F [29] σ σ1 := by rw [← hs2]; exact sg_F_p (sg_F_r _ _) rfl _ _ _
  refine wk_b tt_193 5 (pc' := 21) (ls' := [(0, .inr (.inr (.ref 28))), (1, .inl (a1)), (2, .inl (a2))]) (st' := [.inl (a2), .inl ((sg_g σ1 28 6)), .inr (.inr (.ref 30))]) (σ' := σ1) rfl ?_
  rw [show (sg_g σ1 28 6) = (sg_g σ 28 6) from by rw [sg_F_ga hF3 rfl]]
  refine wk_callp tt_193 rfl rfl rfl rfl rfl tt_21 rfl (by decide) (pt_i0 z σ1 30 1013 ((sg_g σ 28 6)) (a2) rfl (by decide) (sg_Rg _ _ _)) ?_
  show wx z 1 193 24 [(0, .inr (.inr (.ref 28))), (1, .inl (a1)), (2, .inl (a2))] [] (sx_put σ1 30 1013 ((sg_g σ 28 6)) (a2)) (fun v σ' => v = none ∧ sg_F [29, 30, 32, 33, 7028] σ σ' ∧ Q σ')
  generalize hs5 : (sx_put σ1 30 1013 ((sg_g σ 28 6)) (a2)) = σ4
  have w := w σ4 hs5.symm
  have hF6 : sg_F [30] σ1 σ4 := by rw [← hs5]; exact sg_F_p (sg_F_r _ _) rfl _ _ _
  refine wk_b tt_193 5 (pc' := 31) (ls' := [(0, .inr (.inr (.ref 28))), (1, .inl (a1)), (2, .inl (a2))]) (st' := [.inl (((sg_g σ4 28 6) + 1)), .inr (.inr (.ref 28))]) (σ' := σ4) rfl ?_
  rw [show (sg_g σ4 28 6) = (sg_g σ 28 6) from by rw [sg_F_ga hF6 rfl, sg_F_ga hF3 rfl]]
  refine wk_n ?_
  refine wk_b tt_193 1 (pc' := 34) (ls' := [(0, .inr (.inr (.ref 28))), (1, .inl (a1)), (2, .inl (a2))]) (st' := []) (σ' := (sg_w σ4 28 6 ((sg_n ((sg_g σ 28 6) + 1))))) rfl ?_
  generalize hs8 : (sg_w σ4 28 6 ((sg_n ((sg_g σ 28 6) + 1)))) = σ7
  have w := w σ7 hs8.symm
  have hF9 : sg_F [7028] σ4 σ7 := by rw [← hs8]; exact sg_F_w (sg_F_r _ _) rfl _
  refine wk_b tt_193 2 (pc' := 37) (ls' := [(0, .inr (.inr (.ref 28))), (1, .inl (a1)), (2, .inl (a2))]) (st' := [.inl (8), .inl (a1)]) (σ' := σ7) rfl ?_
  refine wk_if2 tt_193 (tgt := 46) rfl rfl ra1 (by decide) (fun (h10 : a1 = 8) => ?_) (fun (h10 : ¬ a1 = 8) => ?_)
  ·
    have w := w.1 h10
    refine wk_b tt_193 5 (pc' := 55) (ls' := [(0, .inr (.inr (.ref 28))), (1, .inl (a1)), (2, .inl (a2))]) (st' := [.inl ((sg_g σ7 28 6)), .inl (a2), .inr (.inr (.ref 32))]) (σ' := σ7) rfl ?_
    rw [show (sg_g σ7 28 6) = (sg_n ((sg_g σ 28 6) + 1)) from by rw [(show sg_g σ7 28 6 = (sg_n ((sg_g σ 28 6) + 1)) from by rw [← hs8]; exact sg_gw_e _ _ _ _ (sg_Rn _))]]
    refine wk_callp tt_193 rfl rfl rfl rfl rfl tt_21 rfl (by decide) (pt_i0 z σ7 32 200 (a2) ((sg_n ((sg_g σ 28 6) + 1))) rfl (by decide) ra2) ?_
    show wx z 1 193 58 [(0, .inr (.inr (.ref 28))), (1, .inl (a1)), (2, .inl (a2))] [] (sx_put σ7 32 200 (a2) ((sg_n ((sg_g σ 28 6) + 1)))) (fun v σ' => v = none ∧ sg_F [29, 30, 32, 33, 7028] σ σ' ∧ Q σ')
    generalize hs12 : (sx_put σ7 32 200 (a2) ((sg_n ((sg_g σ 28 6) + 1)))) = σ11
    have w := w σ11 hs12.symm
    have hF13 : sg_F [32] σ7 σ11 := by rw [← hs12]; exact sg_F_p (sg_F_r _ _) rfl _ _ _
    refine wk_b tt_193 1 (pc' := 85) (ls' := [(0, .inr (.inr (.ref 28))), (1, .inl (a1)), (2, .inl (a2))]) (st' := []) (σ' := σ11) rfl ?_
    exact wk_rV tt_193 rfl rfl ⟨rfl, (sg_F_t (sg_F_t (sg_F_t (sg_F_t (sg_F_r [29, 30, 32, 33, 7028] σ) (sg_F_m (L := [29, 30, 32, 33, 7028]) hF3 rfl)) (sg_F_m (L := [29, 30, 32, 33, 7028]) hF6 rfl)) (sg_F_m (L := [29, 30, 32, 33, 7028]) hF9 rfl)) (sg_F_m (L := [29, 30, 32, 33, 7028]) hF13 rfl)), w⟩
  ·
    have w := w.2 h10
    refine wk_b tt_193 2 (pc' := 43) (ls' := [(0, .inr (.inr (.ref 28))), (1, .inl (a1)), (2, .inl (a2))]) (st' := [.inl (10), .inl (a1)]) (σ' := σ7) rfl ?_
    refine wk_if2 tt_193 (tgt := 61) rfl rfl ra1 (by decide) (fun (h14 : ¬ a1 = 10) => ?_) (fun (h14 : a1 = 10) => ?_)
    ·
      have w := w.1 h14
      refine wk_b tt_193 2 (pc' := 64) (ls' := [(0, .inr (.inr (.ref 28))), (1, .inl (a1)), (2, .inl (a2))]) (st' := [.inl (9), .inl (a1)]) (σ' := σ7) rfl ?_
      refine wk_if2 tt_193 (tgt := 73) rfl rfl ra1 (by decide) (fun (h15 : a1 = 9) => ?_) (fun (h15 : ¬ a1 = 9) => ?_)
      ·
        have w := w.1 h15
        refine wk_b tt_193 5 (pc' := 82) (ls' := [(0, .inr (.inr (.ref 28))), (1, .inl (a1)), (2, .inl (a2))]) (st' := [.inl ((sg_g σ7 28 6)), .inl (a2), .inr (.inr (.ref 33))]) (σ' := σ7) rfl ?_
        rw [show (sg_g σ7 28 6) = (sg_n ((sg_g σ 28 6) + 1)) from by rw [(show sg_g σ7 28 6 = (sg_n ((sg_g σ 28 6) + 1)) from by rw [← hs8]; exact sg_gw_e _ _ _ _ (sg_Rn _))]]
        refine wk_callp tt_193 rfl rfl rfl rfl rfl tt_21 rfl (by decide) (pt_i0 z σ7 33 200 (a2) ((sg_n ((sg_g σ 28 6) + 1))) rfl (by decide) ra2) ?_
        show wx z 1 193 85 [(0, .inr (.inr (.ref 28))), (1, .inl (a1)), (2, .inl (a2))] [] (sx_put σ7 33 200 (a2) ((sg_n ((sg_g σ 28 6) + 1)))) (fun v σ' => v = none ∧ sg_F [29, 30, 32, 33, 7028] σ σ' ∧ Q σ')
        generalize hs17 : (sx_put σ7 33 200 (a2) ((sg_n ((sg_g σ 28 6) + 1)))) = σ16
        have w := w σ16 hs17.symm
        have hF18 : sg_F [33] σ7 σ16 := by rw [← hs17]; exact sg_F_p (sg_F_r _ _) rfl _ _ _
        exact wk_rV tt_193 rfl rfl ⟨rfl, (sg_F_t (sg_F_t (sg_F_t (sg_F_t (sg_F_r [29, 30, 32, 33, 7028] σ) (sg_F_m (L := [29, 30, 32, 33, 7028]) hF3 rfl)) (sg_F_m (L := [29, 30, 32, 33, 7028]) hF6 rfl)) (sg_F_m (L := [29, 30, 32, 33, 7028]) hF9 rfl)) (sg_F_m (L := [29, 30, 32, 33, 7028]) hF18 rfl)), w⟩
      ·
        have w := w.2 h15
        refine wk_b tt_193 2 (pc' := 70) (ls' := [(0, .inr (.inr (.ref 28))), (1, .inl (a1)), (2, .inl (a2))]) (st' := [.inl (12), .inl (a1)]) (σ' := σ7) rfl ?_
        refine wk_if2 tt_193 (tgt := 85) rfl rfl ra1 (by decide) (fun (h19 : ¬ a1 = 12) => ?_) (fun (h19 : a1 = 12) => ?_)
        ·
          have w := w.1 h19
          exact wk_rV tt_193 rfl rfl ⟨rfl, (sg_F_t (sg_F_t (sg_F_t (sg_F_r [29, 30, 32, 33, 7028] σ) (sg_F_m (L := [29, 30, 32, 33, 7028]) hF3 rfl)) (sg_F_m (L := [29, 30, 32, 33, 7028]) hF6 rfl)) (sg_F_m (L := [29, 30, 32, 33, 7028]) hF9 rfl)), w⟩
        ·
          have w := w.2 h19
          refine wk_b tt_193 5 (pc' := 82) (ls' := [(0, .inr (.inr (.ref 28))), (1, .inl (a1)), (2, .inl (a2))]) (st' := [.inl ((sg_g σ7 28 6)), .inl (a2), .inr (.inr (.ref 33))]) (σ' := σ7) rfl ?_
          rw [show (sg_g σ7 28 6) = (sg_n ((sg_g σ 28 6) + 1)) from by rw [(show sg_g σ7 28 6 = (sg_n ((sg_g σ 28 6) + 1)) from by rw [← hs8]; exact sg_gw_e _ _ _ _ (sg_Rn _))]]
          refine wk_callp tt_193 rfl rfl rfl rfl rfl tt_21 rfl (by decide) (pt_i0 z σ7 33 200 (a2) ((sg_n ((sg_g σ 28 6) + 1))) rfl (by decide) ra2) ?_
          show wx z 1 193 85 [(0, .inr (.inr (.ref 28))), (1, .inl (a1)), (2, .inl (a2))] [] (sx_put σ7 33 200 (a2) ((sg_n ((sg_g σ 28 6) + 1)))) (fun v σ' => v = none ∧ sg_F [29, 30, 32, 33, 7028] σ σ' ∧ Q σ')
          generalize hs21 : (sx_put σ7 33 200 (a2) ((sg_n ((sg_g σ 28 6) + 1)))) = σ20
          have w := w σ20 hs21.symm
          have hF22 : sg_F [33] σ7 σ20 := by rw [← hs21]; exact sg_F_p (sg_F_r _ _) rfl _ _ _
          exact wk_rV tt_193 rfl rfl ⟨rfl, (sg_F_t (sg_F_t (sg_F_t (sg_F_t (sg_F_r [29, 30, 32, 33, 7028] σ) (sg_F_m (L := [29, 30, 32, 33, 7028]) hF3 rfl)) (sg_F_m (L := [29, 30, 32, 33, 7028]) hF6 rfl)) (sg_F_m (L := [29, 30, 32, 33, 7028]) hF9 rfl)) (sg_F_m (L := [29, 30, 32, 33, 7028]) hF22 rfl)), w⟩
    ·
      have w := w.2 h14
      refine wk_b tt_193 5 (pc' := 55) (ls' := [(0, .inr (.inr (.ref 28))), (1, .inl (a1)), (2, .inl (a2))]) (st' := [.inl ((sg_g σ7 28 6)), .inl (a2), .inr (.inr (.ref 32))]) (σ' := σ7) rfl ?_
      rw [show (sg_g σ7 28 6) = (sg_n ((sg_g σ 28 6) + 1)) from by rw [(show sg_g σ7 28 6 = (sg_n ((sg_g σ 28 6) + 1)) from by rw [← hs8]; exact sg_gw_e _ _ _ _ (sg_Rn _))]]
      refine wk_callp tt_193 rfl rfl rfl rfl rfl tt_21 rfl (by decide) (pt_i0 z σ7 32 200 (a2) ((sg_n ((sg_g σ 28 6) + 1))) rfl (by decide) ra2) ?_
      show wx z 1 193 58 [(0, .inr (.inr (.ref 28))), (1, .inl (a1)), (2, .inl (a2))] [] (sx_put σ7 32 200 (a2) ((sg_n ((sg_g σ 28 6) + 1)))) (fun v σ' => v = none ∧ sg_F [29, 30, 32, 33, 7028] σ σ' ∧ Q σ')
      generalize hs24 : (sx_put σ7 32 200 (a2) ((sg_n ((sg_g σ 28 6) + 1)))) = σ23
      have w := w σ23 hs24.symm
      have hF25 : sg_F [32] σ7 σ23 := by rw [← hs24]; exact sg_F_p (sg_F_r _ _) rfl _ _ _
      refine wk_b tt_193 1 (pc' := 85) (ls' := [(0, .inr (.inr (.ref 28))), (1, .inl (a1)), (2, .inl (a2))]) (st' := []) (σ' := σ23) rfl ?_
      exact wk_rV tt_193 rfl rfl ⟨rfl, (sg_F_t (sg_F_t (sg_F_t (sg_F_t (sg_F_r [29, 30, 32, 33, 7028] σ) (sg_F_m (L := [29, 30, 32, 33, 7028]) hF3 rfl)) (sg_F_m (L := [29, 30, 32, 33, 7028]) hF6 rfl)) (sg_F_m (L := [29, 30, 32, 33, 7028]) hF9 rfl)) (sg_F_m (L := [29, 30, 32, 33, 7028]) hF25 rfl)), w⟩
-- NestedVectors$Checker.blame
def V_kBlame (σ : sg_S) (a1 : Int) (a2 : Int) (Q : sg_S → Prop) : Prop := ((¬ (sg_g σ 38 13) = 0 → Q σ) ∧ ((sg_g σ 38 13) = 0 → ∀ σ2, σ2 = (sg_w σ 38 13 (a1)) → ∀ σ5, σ5 = (sg_w σ2 38 12 (a2)) → Q σ5))
set_option maxHeartbeats 4000000 in
set_option maxRecDepth 8000 in
theorem w_kBlame (z : Value) (σ : sg_S) (a1 : Int) (a2 : Int) (Q : sg_S → Prop) (ra1 : sg_R a1) (ra2 : sg_R a2) (w : V_kBlame σ a1 a2 Q) : wx z 0 28 0 [(0, .inr (.inr (.ref 38))), (1, .inl (a1)), (2, .inl (a2))] [] σ (fun v σ' => v = none ∧ sg_F [13038, 14038] σ σ' ∧ Q σ') := by
  unfold V_kBlame at w
  refine wk_b tt_28 2 (pc' := 4) (ls' := [(0, .inr (.inr (.ref 38))), (1, .inl (a1)), (2, .inl (a2))]) (st' := [.inl ((sg_g σ 38 13))]) (σ' := σ) rfl ?_
  refine wk_if tt_28 (tgt := 17) rfl rfl (sg_Rg _ _ _) (fun (h1 : ¬ (sg_g σ 38 13) = 0) => ?_) (fun (h1 : (sg_g σ 38 13) = 0) => ?_)
  ·
    have w := w.1 h1
    exact wk_rV tt_28 rfl rfl ⟨rfl, (sg_F_r [13038, 14038] σ), w⟩
  ·
    have w := w.2 h1
    refine wk_b tt_28 3 (pc' := 12) (ls' := [(0, .inr (.inr (.ref 38))), (1, .inl (a1)), (2, .inl (a2))]) (st' := []) (σ' := (sg_w σ 38 13 (a1))) rfl ?_
    generalize hs3 : (sg_w σ 38 13 (a1)) = σ2
    have w := w σ2 hs3.symm
    have hF4 : sg_F [14038] σ σ2 := by rw [← hs3]; exact sg_F_w (sg_F_r _ _) rfl _
    refine wk_b tt_28 3 (pc' := 17) (ls' := [(0, .inr (.inr (.ref 38))), (1, .inl (a1)), (2, .inl (a2))]) (st' := []) (σ' := (sg_w σ2 38 12 (a2))) rfl ?_
    generalize hs6 : (sg_w σ2 38 12 (a2)) = σ5
    have w := w σ5 hs6.symm
    have hF7 : sg_F [13038] σ2 σ5 := by rw [← hs6]; exact sg_F_w (sg_F_r _ _) rfl _
    exact wk_rV tt_28 rfl rfl ⟨rfl, (sg_F_t (sg_F_t (sg_F_r [13038, 14038] σ) (sg_F_m (L := [13038, 14038]) hF4 rfl)) (sg_F_m (L := [13038, 14038]) hF7 rfl)), w⟩
-- NestedVectors$Checker.bind
def V_kBind (σ : sg_S) (a1 : Int) (a2 : Int) (Q : Int → sg_S → Prop) : Prop := sg_R ((sg_g σ 38 10) + 1) ∧ ∀ σ2, σ2 = (sg_w σ 38 10 (((sg_g σ 38 10) + 1))) → ∀ σ5, σ5 = (sx_putl σ2 39 272 ((sg_g σ 38 9)) (a1)) → ∀ σ8, σ8 = (sx_put σ5 40 272 ((sg_g σ 38 9)) ((sg_g σ 38 10))) → sg_R ((sg_g σ 38 9) + 1) ∧ ∀ σ12, σ12 = (sg_w σ8 38 9 (((sg_g σ 38 9) + 1))) → ∀ σ15, σ15 = (sx_put σ12 34 272 ((sg_g σ 38 10)) (a2)) → Q ((sg_g σ 38 10)) σ15
set_option maxHeartbeats 4000000 in
set_option maxRecDepth 8000 in
theorem w_kBind (z : Value) (σ : sg_S) (a1 : Int) (a2 : Int) (Q : Int → sg_S → Prop) (ra1 : sg_RL a1) (ra2 : sg_R a2) (w : V_kBind σ a1 a2 Q) : wx z 1 27 0 [(0, .inr (.inr (.ref 38))), (1, .inr (.inl (a1))), (3, .inl (a2))] [] σ (fun v σ' => ∃ q, v = some (.inl q) ∧ sg_R q ∧ sg_F [34, 39, 40, 10038, 11038] σ σ' ∧ Q q σ') := by
  unfold V_kBind at w
  obtain ⟨c1, w⟩ := w
  refine wk_b tt_27 9 (pc' := 16) (ls' := [(4, .inl ((sg_g σ 38 10))), (0, .inr (.inr (.ref 38))), (1, .inr (.inl (a1))), (3, .inl (a2))]) (st' := []) (σ' := (sg_w σ 38 10 (((sg_g σ 38 10) + 1)))) rfl ?_
  generalize hs3 : (sg_w σ 38 10 (((sg_g σ 38 10) + 1))) = σ2
  have w := w σ2 hs3.symm
  have hF4 : sg_F [11038] σ σ2 := by rw [← hs3]; exact sg_F_w (sg_F_r _ _) rfl _
  refine wk_b tt_27 5 (pc' := 25) (ls' := [(4, .inl ((sg_g σ 38 10))), (0, .inr (.inr (.ref 38))), (1, .inr (.inl (a1))), (3, .inl (a2))]) (st' := [.inr (.inl (a1)), .inl ((sg_g σ2 38 9)), .inr (.inr (.ref 39))]) (σ' := σ2) rfl ?_
  rw [show (sg_g σ2 38 9) = (sg_g σ 38 9) from by rw [sg_F_g hF4 rfl]]
  refine wk_callp tt_27 rfl rfl rfl rfl rfl tt_22 rfl (by decide) (pt_l0 z σ2 39 272 ((sg_g σ 38 9)) (a1) rfl (by decide) (sg_Rg _ _ _)) ?_
  show wx z 1 27 28 [(4, .inl ((sg_g σ 38 10))), (0, .inr (.inr (.ref 38))), (1, .inr (.inl (a1))), (3, .inl (a2))] [] (sx_putl σ2 39 272 ((sg_g σ 38 9)) (a1)) (fun v σ' => ∃ q, v = some (.inl q) ∧ sg_R q ∧ sg_F [34, 39, 40, 10038, 11038] σ σ' ∧ Q q σ')
  generalize hs6 : (sx_putl σ2 39 272 ((sg_g σ 38 9)) (a1)) = σ5
  have w := w σ5 hs6.symm
  have hF7 : sg_F [39] σ2 σ5 := by rw [← hs6]; exact sg_F_pl (sg_F_r _ _) rfl _ _ _
  refine wk_b tt_27 5 (pc' := 38) (ls' := [(4, .inl ((sg_g σ 38 10))), (0, .inr (.inr (.ref 38))), (1, .inr (.inl (a1))), (3, .inl (a2))]) (st' := [.inl ((sg_g σ 38 10)), .inl ((sg_g σ5 38 9)), .inr (.inr (.ref 40))]) (σ' := σ5) rfl ?_
  rw [show (sg_g σ5 38 9) = (sg_g σ 38 9) from by rw [sg_F_ga hF7 rfl, sg_F_g hF4 rfl]]
  refine wk_callp tt_27 rfl rfl rfl rfl rfl tt_21 rfl (by decide) (pt_i0 z σ5 40 272 ((sg_g σ 38 9)) ((sg_g σ 38 10)) rfl (by decide) (sg_Rg _ _ _)) ?_
  show wx z 1 27 41 [(4, .inl ((sg_g σ 38 10))), (0, .inr (.inr (.ref 38))), (1, .inr (.inl (a1))), (3, .inl (a2))] [] (sx_put σ5 40 272 ((sg_g σ 38 9)) ((sg_g σ 38 10))) (fun v σ' => ∃ q, v = some (.inl q) ∧ sg_R q ∧ sg_F [34, 39, 40, 10038, 11038] σ σ' ∧ Q q σ')
  generalize hs9 : (sx_put σ5 40 272 ((sg_g σ 38 9)) ((sg_g σ 38 10))) = σ8
  have w := w σ8 hs9.symm
  have hF10 : sg_F [40] σ5 σ8 := by rw [← hs9]; exact sg_F_p (sg_F_r _ _) rfl _ _ _
  obtain ⟨c11, w⟩ := w
  refine wk_b tt_27 6 (pc' := 51) (ls' := [(4, .inl ((sg_g σ 38 10))), (0, .inr (.inr (.ref 38))), (1, .inr (.inl (a1))), (3, .inl (a2))]) (st' := []) (σ' := (sg_w σ8 38 9 (((sg_g σ8 38 9) + 1)))) rfl ?_
  rw [show (sg_g σ8 38 9) = (sg_g σ 38 9) from by rw [sg_F_ga hF10 rfl, sg_F_ga hF7 rfl, sg_F_g hF4 rfl]]
  generalize hs13 : (sg_w σ8 38 9 (((sg_g σ 38 9) + 1))) = σ12
  have w := w σ12 hs13.symm
  have hF14 : sg_F [10038] σ8 σ12 := by rw [← hs13]; exact sg_F_w (sg_F_r _ _) rfl _
  refine wk_b tt_27 5 (pc' := 61) (ls' := [(4, .inl ((sg_g σ 38 10))), (0, .inr (.inr (.ref 38))), (1, .inr (.inl (a1))), (3, .inl (a2))]) (st' := [.inl (a2), .inl ((sg_g σ 38 10)), .inr (.inr (.ref 34))]) (σ' := σ12) rfl ?_
  refine wk_callp tt_27 rfl rfl rfl rfl rfl tt_21 rfl (by decide) (pt_i0 z σ12 34 272 ((sg_g σ 38 10)) (a2) rfl (by decide) (sg_Rg _ _ _)) ?_
  show wx z 1 27 64 [(4, .inl ((sg_g σ 38 10))), (0, .inr (.inr (.ref 38))), (1, .inr (.inl (a1))), (3, .inl (a2))] [] (sx_put σ12 34 272 ((sg_g σ 38 10)) (a2)) (fun v σ' => ∃ q, v = some (.inl q) ∧ sg_R q ∧ sg_F [34, 39, 40, 10038, 11038] σ σ' ∧ Q q σ')
  generalize hs16 : (sx_put σ12 34 272 ((sg_g σ 38 10)) (a2)) = σ15
  have w := w σ15 hs16.symm
  have hF17 : sg_F [34] σ12 σ15 := by rw [← hs16]; exact sg_F_p (sg_F_r _ _) rfl _ _ _
  refine wk_b tt_27 1 (pc' := 66) (ls' := [(4, .inl ((sg_g σ 38 10))), (0, .inr (.inr (.ref 38))), (1, .inr (.inl (a1))), (3, .inl (a2))]) (st' := [.inl ((sg_g σ 38 10))]) (σ' := σ15) rfl ?_
  exact wk_rI tt_27 rfl rfl ⟨_, rfl, (sg_Rg _ _ _), (sg_F_t (sg_F_t (sg_F_t (sg_F_t (sg_F_t (sg_F_r [34, 39, 40, 10038, 11038] σ) (sg_F_m (L := [34, 39, 40, 10038, 11038]) hF4 rfl)) (sg_F_m (L := [34, 39, 40, 10038, 11038]) hF7 rfl)) (sg_F_m (L := [34, 39, 40, 10038, 11038]) hF10 rfl)) (sg_F_m (L := [34, 39, 40, 10038, 11038]) hF14 rfl)) (sg_F_m (L := [34, 39, 40, 10038, 11038]) hF17 rfl)), w⟩
-- NestedVectors$Checker.open
def V_kOpen (σ : sg_S) (a1 : Int) (Q : sg_S → Prop) : Prop := ∀ σ1, σ1 = (sx_put σ 16 200 (a1) ((sg_g σ 38 10))) → (∃ (I9 : Nat → Int → Int → Int → sg_S → Prop) (X11 : Int → sg_S → Prop), (∃ n, I9 n (1) ((sx_at σ 7 200 (a1))) (0) σ1) ∧ (∀ (n21 : Nat) (v4 : Int) (v5 : Int) (v6 : Int) (σ7 : sg_S), sg_R v4 → sg_R v5 → sg_R v6 → sg_F [34, 39, 40, 10038, 11038, 13038, 14038] σ1 σ7 → I9 n21 v4 v5 v6 σ7 → (((sx_at σ 13 200 (a1)) ≤ v6 → X11 (v4) σ7) ∧ (v6 < (sx_at σ 13 200 (a1)) → ((4 ≤ v6 → X11 (v4) σ7) ∧ (v6 < 4 → (∃ (I46 : Nat → Int → sg_S → Prop) (X48 : sg_S → Prop), (∃ n, I46 n ((sg_g σ 38 9)) σ7) ∧ (∀ (n56 : Nat) (v43 : Int) (σ44 : sg_S), sg_R v43 → sg_F [13038, 14038] σ7 σ44 → I46 n56 v43 σ44 → (((sg_g σ7 38 9) ≤ v43 → X48 σ44) ∧ (v43 < (sg_g σ7 38 9) → ((272 ≤ v43 → X48 σ44) ∧ (v43 < 272 → ((¬ (sx_atl σ7 39 272 (v43)) = (sx_atl σ 18 200 (v5)) → sg_R (v43 + 1) ∧ (∃ m, m < n56 ∧ I46 m ((v43 + 1)) σ44)) ∧ ((sx_atl σ7 39 272 (v43)) = (sx_atl σ 18 200 (v5)) → V_kBlame σ44 (2) ((sx_at σ 15 200 (v5))) (fun σ79 => sg_F [13038, 14038] σ44 σ79 → sg_R (v43 + 1) ∧ (∃ m, m < n56 ∧ I46 m ((v43 + 1)) σ79))))))))) ∧ (∀ (σ44 : sg_S), sg_F [13038, 14038] σ7 σ44 → X48 σ44 → ((v4 = 0 → True) ∧ (¬ v4 = 0 → (((sx_at σ 6 200 (v5)) ≤ 0 → True) ∧ (0 < (sx_at σ 6 200 (v5)) → True)))) ∧ ∀ v60 : Int, v60 = (if v4 = 0 then (0 : Int) else (if (sx_at σ 6 200 (v5)) ≤ 0 then (0 : Int) else (1 : Int))) → sg_R v60 → sg_R ((sx_at σ 6 200 (v5)) - 1) ∧ V_kBind σ44 ((sx_atl σ 18 200 (v5))) (((sx_at σ 6 200 (v5)) - 1)) (fun q64 σ65 => sg_R q64 → sg_F [34, 39, 40, 10038, 11038] σ44 σ65 → sg_R (v6 + 1) ∧ (∃ m, m < n21 ∧ I9 m (v60) ((sx_at σ 9 200 (v5))) ((v6 + 1)) σ65))))))))) ∧ (∀ (v4 : Int) (σ7 : sg_S), sg_R v4 → sg_F [34, 39, 40, 10038, 11038, 13038, 14038] σ1 σ7 → X11 v4 σ7 → (∃ P25 : sg_S → Prop, ((¬ v4 = 0 → P25 σ7) ∧ (v4 = 0 → V_kBlame σ7 (3) ((sx_at σ 4 200 (a1))) (fun σ36 => sg_F [13038, 14038] σ7 σ36 → P25 σ36))) ∧ (∀ (σ26 : sg_S), sg_F [13038, 14038] σ7 σ26 → P25 σ26 → V_kpAdd σ26 (10) (a1) (fun σ30 => sg_F [29, 30, 32, 33, 7028] σ26 σ30 → Q σ30)))))
set_option maxHeartbeats 4000000 in
set_option maxRecDepth 8000 in
theorem w_kOpen (z : Value) (σ : sg_S) (a1 : Int) (Q : sg_S → Prop) (ra1 : sg_R a1) (w : V_kOpen σ a1 Q) : wx z 2 41 0 [(0, .inr (.inr (.ref 38))), (1, .inl (a1))] [] σ (fun v σ' => v = none ∧ sg_F [16, 29, 30, 32, 33, 34, 39, 40, 7028, 10038, 11038, 13038, 14038] σ σ' ∧ Q σ') := by
  unfold V_kOpen at w
  refine wk_b tt_41 6 (pc' := 12) (ls' := [(0, .inr (.inr (.ref 38))), (1, .inl (a1))]) (st' := [.inl ((sg_g σ 38 10)), .inl (a1), .inr (.inr (.ref 16))]) (σ' := σ) rfl ?_
  refine wk_callp tt_41 rfl rfl rfl rfl rfl tt_21 rfl (by decide) (pt_i0 z σ 16 200 (a1) ((sg_g σ 38 10)) rfl (by decide) ra1) ?_
  show wx z 2 41 15 [(0, .inr (.inr (.ref 38))), (1, .inl (a1))] [] (sx_put σ 16 200 (a1) ((sg_g σ 38 10))) (fun v σ' => v = none ∧ sg_F [16, 29, 30, 32, 33, 34, 39, 40, 7028, 10038, 11038, 13038, 14038] σ σ' ∧ Q σ')
  generalize hs2 : (sx_put σ 16 200 (a1) ((sg_g σ 38 10))) = σ1
  have w := w σ1 hs2.symm
  have hF3 : sg_F [16] σ σ1 := by rw [← hs2]; exact sg_F_p (sg_F_r _ _) rfl _ _ _
  refine wk_b tt_41 9 (pc' := 30) (ls' := [(3, .inl (1)), (2, .inl ((sg_g σ1 38 9))), (0, .inr (.inr (.ref 38))), (1, .inl (a1))]) (st' := [.inl (a1), .inr (.inr (.ref 7))]) (σ' := σ1) rfl ?_
  rw [show (sg_g σ1 38 9) = (sg_g σ 38 9) from by rw [sg_F_ga hF3 rfl]]
  refine wk_callp tt_41 rfl rfl rfl rfl rfl tt_5 rfl (by decide) (at_i0 z σ1 7 200 (a1) rfl (by decide) ra1) ?_
  show wx z 2 41 33 [(3, .inl (1)), (2, .inl ((sg_g σ 38 9))), (0, .inr (.inr (.ref 38))), (1, .inl (a1))] [.inl ((sx_at σ1 7 200 (a1)))] σ1 (fun v σ' => v = none ∧ sg_F [16, 29, 30, 32, 33, 34, 39, 40, 7028, 10038, 11038, 13038, 14038] σ σ' ∧ Q σ')
  rw [sx_F (a := 7) (n := 200) (i := (a1)) hF3 rfl]
  refine wk_b tt_41 3 (pc' := 38) (ls' := [(5, .inl (0)), (4, .inl ((sx_at σ 7 200 (a1)))), (3, .inl (1)), (2, .inl ((sg_g σ 38 9))), (0, .inr (.inr (.ref 38))), (1, .inl (a1))]) (st' := []) (σ' := σ1) rfl ?_
  obtain ⟨I9, X11, ⟨μ10, w18⟩, w19, w20⟩ := w
  have ex22 : ∀ (v4 : Int) (σ7 : sg_S), sg_R v4 → sg_F [34, 39, 40, 10038, 11038, 13038, 14038] σ1 σ7 → X11 v4 σ7 → wx z 2 41 198 [(0, .inr (.inr (.ref 38))), (1, .inl (a1)), (3, .inl (v4))] [] σ7 (fun v σ' => v = none ∧ sg_F [16, 29, 30, 32, 33, 34, 39, 40, 7028, 10038, 11038, 13038, 14038] σ σ' ∧ Q σ') := by
    intro v4 σ7 r12 hF8 w
    have w := w20 v4 σ7 r12 hF8 w
    refine wk_b tt_41 1 (pc' := 199) (ls' := [(0, .inr (.inr (.ref 38))), (1, .inl (a1)), (3, .inl (v4))]) (st' := [.inl (v4)]) (σ' := σ7) rfl ?_
    obtain ⟨P25, w, w28⟩ := w
    have jn24 : ∀ (σ26 : sg_S), sg_F [13038, 14038] σ7 σ26 → P25 σ26 → wx z 2 41 218 [(0, .inr (.inr (.ref 38))), (1, .inl (a1))] [] σ26 (fun v σ' => v = none ∧ sg_F [16, 29, 30, 32, 33, 34, 39, 40, 7028, 10038, 11038, 13038, 14038] σ σ' ∧ Q σ') := by
      intro σ26 hF27 w
      have w := w28 σ26 hF27 w
      refine wk_b tt_41 4 (pc' := 225) (ls' := [(0, .inr (.inr (.ref 38))), (1, .inl (a1))]) (st' := [.inl (a1), .inl (10), .inr (.inr (.ref 28))]) (σ' := σ26) rfl ?_
      refine wk_call tt_41 rfl rfl rfl rfl rfl tt_193 rfl (by decide) (w_kpAdd z σ26 (10) (a1) _ (by decide) ra1 w) (fun u34 σ30 hq32 => ?_)
      obtain ⟨rfl, hF31, w⟩ := hq32
      have w := w hF31
      exact wk_rV tt_41 rfl rfl ⟨rfl, (sg_F_t (sg_F_t (sg_F_t (sg_F_t (sg_F_r [16, 29, 30, 32, 33, 34, 39, 40, 7028, 10038, 11038, 13038, 14038] σ) (sg_F_m (L := [16, 29, 30, 32, 33, 34, 39, 40, 7028, 10038, 11038, 13038, 14038]) hF3 rfl)) (sg_F_m (L := [16, 29, 30, 32, 33, 34, 39, 40, 7028, 10038, 11038, 13038, 14038]) hF8 rfl)) (sg_F_m (L := [16, 29, 30, 32, 33, 34, 39, 40, 7028, 10038, 11038, 13038, 14038]) hF27 rfl)) (sg_F_m (L := [16, 29, 30, 32, 33, 34, 39, 40, 7028, 10038, 11038, 13038, 14038]) hF31 rfl)), w⟩
    refine wk_if tt_41 (tgt := 218) rfl rfl r12 (fun (h23 : ¬ v4 = 0) => ?_) (fun (h23 : v4 = 0) => ?_)
    ·
      have w := w.1 h23
      exact wk_ls [(0, .inr (.inr (.ref 38))), (1, .inl (a1))] rfl ⟨rfl, rfl, trivial⟩ (jn24 σ7 (sg_F_r [13038, 14038] σ7) w)
    ·
      have w := w.2 h23
      refine wk_b tt_41 6 (pc' := 212) (ls' := [(0, .inr (.inr (.ref 38))), (1, .inl (a1)), (3, .inl (v4))]) (st' := [.inl (a1), .inr (.inr (.ref 4)), .inl (3), .inr (.inr (.ref 38))]) (σ' := σ7) rfl ?_
      refine wk_callp tt_41 rfl rfl rfl rfl rfl tt_5 rfl (by decide) (at_i0 z σ7 4 200 (a1) rfl (by decide) ra1) ?_
      show wx z 2 41 215 [(0, .inr (.inr (.ref 38))), (1, .inl (a1)), (3, .inl (v4))] [.inl ((sx_at σ7 4 200 (a1))), .inl (3), .inr (.inr (.ref 38))] σ7 (fun v σ' => v = none ∧ sg_F [16, 29, 30, 32, 33, 34, 39, 40, 7028, 10038, 11038, 13038, 14038] σ σ' ∧ Q σ')
      rw [sx_F (a := 4) (n := 200) (i := (a1)) hF8 rfl, sx_F (a := 4) (n := 200) (i := (a1)) hF3 rfl]
      refine wk_call tt_41 rfl rfl rfl rfl rfl tt_28 rfl (by decide) (w_kBlame z σ7 (3) ((sx_at σ 4 200 (a1))) _ (by decide) (sx_R ..) w) (fun u40 σ36 hq38 => ?_)
      obtain ⟨rfl, hF37, w⟩ := hq38
      have w := w hF37
      exact wk_ls [(0, .inr (.inr (.ref 38))), (1, .inl (a1))] rfl ⟨rfl, rfl, trivial⟩ (jn24 σ36 (sg_F_t (sg_F_r [13038, 14038] σ7) (sg_F_m (L := [13038, 14038]) hF37 rfl)) w)
  have lp17 : ∀ (n21 : Nat) (v4 : Int) (v5 : Int) (v6 : Int) (σ7 : sg_S), sg_R v4 → sg_R v5 → sg_R v6 → sg_F [34, 39, 40, 10038, 11038, 13038, 14038] σ1 σ7 → I9 n21 v4 v5 v6 σ7 → wx z 2 41 38 [(0, .inr (.inr (.ref 38))), (1, .inl (a1)), (2, .inl ((sg_g σ 38 9))), (3, .inl (v4)), (4, .inl (v5)), (5, .inl (v6))] [] σ7 (fun v σ' => v = none ∧ sg_F [16, 29, 30, 32, 33, 34, 39, 40, 7028, 10038, 11038, 13038, 14038] σ σ' ∧ Q σ') := by
    intro n21
    induction n21 using Nat.strongRecOn with
    | _ n21 ih15 =>
      intro v4 v5 v6 σ7 r12 r13 r14 hF8 w
      have w := w19 n21 v4 v5 v6 σ7 r12 r13 r14 hF8 w
      refine wk_b tt_41 5 (pc' := 48) (ls' := [(0, .inr (.inr (.ref 38))), (1, .inl (a1)), (2, .inl ((sg_g σ 38 9))), (3, .inl (v4)), (4, .inl (v5)), (5, .inl (v6))]) (st' := [.inl (a1), .inr (.inr (.ref 13)), .inl (v6)]) (σ' := σ7) rfl ?_
      refine wk_callp tt_41 rfl rfl rfl rfl rfl tt_5 rfl (by decide) (at_i0 z σ7 13 200 (a1) rfl (by decide) ra1) ?_
      show wx z 2 41 51 [(0, .inr (.inr (.ref 38))), (1, .inl (a1)), (2, .inl ((sg_g σ 38 9))), (3, .inl (v4)), (4, .inl (v5)), (5, .inl (v6))] [.inl ((sx_at σ7 13 200 (a1))), .inl (v6)] σ7 (fun v σ' => v = none ∧ sg_F [16, 29, 30, 32, 33, 34, 39, 40, 7028, 10038, 11038, 13038, 14038] σ σ' ∧ Q σ')
      rw [sx_F (a := 13) (n := 200) (i := (a1)) hF8 rfl, sx_F (a := 13) (n := 200) (i := (a1)) hF3 rfl]
      refine wk_if2 tt_41 (tgt := 198) rfl rfl r14 (sx_R ..) (fun (h41 : (sx_at σ 13 200 (a1)) ≤ v6) => ?_) (fun (h41 : v6 < (sx_at σ 13 200 (a1))) => ?_)
      ·
        have w := w.1 h41
        exact wk_ls [(0, .inr (.inr (.ref 38))), (1, .inl (a1)), (3, .inl (v4))] rfl ⟨rfl, rfl, rfl, trivial⟩ (ex22 (v4) σ7 r12 (sg_F_t (sg_F_r [34, 39, 40, 10038, 11038, 13038, 14038] σ1) (sg_F_m (L := [34, 39, 40, 10038, 11038, 13038, 14038]) hF8 rfl)) w)
      ·
        have w := w.2 h41
        refine wk_b tt_41 2 (pc' := 57) (ls' := [(0, .inr (.inr (.ref 38))), (1, .inl (a1)), (2, .inl ((sg_g σ 38 9))), (3, .inl (v4)), (4, .inl (v5)), (5, .inl (v6))]) (st' := [.inl (4), .inl (v6)]) (σ' := σ7) rfl ?_
        refine wk_if2 tt_41 (tgt := 198) rfl rfl r14 (by decide) (fun (h42 : 4 ≤ v6) => ?_) (fun (h42 : v6 < 4) => ?_)
        ·
          have w := w.1 h42
          exact wk_ls [(0, .inr (.inr (.ref 38))), (1, .inl (a1)), (3, .inl (v4))] rfl ⟨rfl, rfl, rfl, trivial⟩ (ex22 (v4) σ7 r12 (sg_F_t (sg_F_r [34, 39, 40, 10038, 11038, 13038, 14038] σ1) (sg_F_m (L := [34, 39, 40, 10038, 11038, 13038, 14038]) hF8 rfl)) w)
        ·
          have w := w.2 h42
          refine wk_b tt_41 4 (pc' := 69) (ls' := [(0, .inr (.inr (.ref 38))), (1, .inl (a1)), (2, .inl ((sg_g σ 38 9))), (3, .inl (v4)), (4, .inl (v5)), (5, .inl (v6))]) (st' := [.inl (v5), .inr (.inr (.ref 18))]) (σ' := σ7) rfl ?_
          refine wk_callp tt_41 rfl rfl rfl rfl rfl tt_6 rfl (by decide) (at_l0 z σ7 18 200 (v5) rfl (by decide) r13) ?_
          show wx z 2 41 72 [(0, .inr (.inr (.ref 38))), (1, .inl (a1)), (2, .inl ((sg_g σ 38 9))), (3, .inl (v4)), (4, .inl (v5)), (5, .inl (v6))] [.inr (.inl ((sx_atl σ7 18 200 (v5))))] σ7 (fun v σ' => v = none ∧ sg_F [16, 29, 30, 32, 33, 34, 39, 40, 7028, 10038, 11038, 13038, 14038] σ σ' ∧ Q σ')
          rw [sx_Fl (a := 18) (n := 200) (i := (v5)) hF8 rfl, sx_Fl (a := 18) (n := 200) (i := (v5)) hF3 rfl]
          refine wk_b tt_41 3 (pc' := 77) (ls' := [(8, .inl ((sg_g σ 38 9))), (6, .inr (.inl ((sx_atl σ 18 200 (v5))))), (0, .inr (.inr (.ref 38))), (1, .inl (a1)), (2, .inl ((sg_g σ 38 9))), (3, .inl (v4)), (4, .inl (v5)), (5, .inl (v6))]) (st' := []) (σ' := σ7) rfl ?_
          obtain ⟨I46, X48, ⟨μ47, w53⟩, w54, w55⟩ := w
          have ex57 : ∀ (σ44 : sg_S), sg_F [13038, 14038] σ7 σ44 → X48 σ44 → wx z 2 41 132 [(0, .inr (.inr (.ref 38))), (1, .inl (a1)), (2, .inl ((sg_g σ 38 9))), (3, .inl (v4)), (4, .inl (v5)), (5, .inl (v6)), (6, .inr (.inl ((sx_atl σ 18 200 (v5)))))] [] σ44 (fun v σ' => v = none ∧ sg_F [16, 29, 30, 32, 33, 34, 39, 40, 7028, 10038, 11038, 13038, 14038] σ σ' ∧ Q σ') := by
            intro σ44 hF45 w
            have w := w55 σ44 hF45 w
            refine wk_b tt_41 1 (pc' := 133) (ls' := [(0, .inr (.inr (.ref 38))), (1, .inl (a1)), (2, .inl ((sg_g σ 38 9))), (3, .inl (v4)), (4, .inl (v5)), (5, .inl (v6)), (6, .inr (.inl ((sx_atl σ 18 200 (v5)))))]) (st' := [.inl (v4)]) (σ' := σ44) rfl ?_
            obtain ⟨wp, w⟩ := w
            have jn59 : ∀ v60 : Int, v60 = (if v4 = 0 then (0 : Int) else (if (sx_at σ 6 200 (v5)) ≤ 0 then (0 : Int) else (1 : Int))) → sg_R v60 → wx z 2 41 156 [(0, .inr (.inr (.ref 38))), (1, .inl (a1)), (2, .inl ((sg_g σ 38 9))), (4, .inl (v5)), (5, .inl (v6)), (6, .inr (.inl ((sx_atl σ 18 200 (v5)))))] [.inl (v60)] σ44 (fun v σ' => v = none ∧ sg_F [16, 29, 30, 32, 33, 34, 39, 40, 7028, 10038, 11038, 13038, 14038] σ σ' ∧ Q σ') := by
              intro v60 e62 r61
              have w := w v60 e62 r61
              refine wk_b tt_41 7 (pc' := 169) (ls' := [(3, .inl (v60)), (0, .inr (.inr (.ref 38))), (1, .inl (a1)), (2, .inl ((sg_g σ 38 9))), (4, .inl (v5)), (5, .inl (v6)), (6, .inr (.inl ((sx_atl σ 18 200 (v5)))))]) (st' := [.inl (v5), .inr (.inr (.ref 6)), .inr (.inl ((sx_atl σ 18 200 (v5)))), .inr (.inr (.ref 38))]) (σ' := σ44) rfl ?_
              refine wk_callp tt_41 rfl rfl rfl rfl rfl tt_5 rfl (by decide) (at_i0 z σ44 6 200 (v5) rfl (by decide) r13) ?_
              show wx z 2 41 172 [(3, .inl (v60)), (0, .inr (.inr (.ref 38))), (1, .inl (a1)), (2, .inl ((sg_g σ 38 9))), (4, .inl (v5)), (5, .inl (v6)), (6, .inr (.inl ((sx_atl σ 18 200 (v5)))))] [.inl ((sx_at σ44 6 200 (v5))), .inr (.inl ((sx_atl σ 18 200 (v5)))), .inr (.inr (.ref 38))] σ44 (fun v σ' => v = none ∧ sg_F [16, 29, 30, 32, 33, 34, 39, 40, 7028, 10038, 11038, 13038, 14038] σ σ' ∧ Q σ')
              rw [sx_F (a := 6) (n := 200) (i := (v5)) hF45 rfl, sx_F (a := 6) (n := 200) (i := (v5)) hF8 rfl, sx_F (a := 6) (n := 200) (i := (v5)) hF3 rfl]
              obtain ⟨c63, w⟩ := w
              refine wk_b tt_41 2 (pc' := 174) (ls' := [(3, .inl (v60)), (0, .inr (.inr (.ref 38))), (1, .inl (a1)), (2, .inl ((sg_g σ 38 9))), (4, .inl (v5)), (5, .inl (v6)), (6, .inr (.inl ((sx_atl σ 18 200 (v5)))))]) (st' := [.inl (((sx_at σ 6 200 (v5)) - 1)), .inr (.inl ((sx_atl σ 18 200 (v5)))), .inr (.inr (.ref 38))]) (σ' := σ44) rfl ?_
              refine wk_call tt_41 rfl rfl rfl rfl rfl tt_27 rfl (by decide) (w_kBind z σ44 ((sx_atl σ 18 200 (v5))) (((sx_at σ 6 200 (v5)) - 1)) _ (sx_Rl ..) c63 w) (fun u69 σ65 hq67 => ?_)
              obtain ⟨q64, rfl, r68, hF66, w⟩ := hq67
              have w := w r68 hF66
              refine wk_b tt_41 5 (pc' := 187) (ls' := [(3, .inl (v60)), (0, .inr (.inr (.ref 38))), (1, .inl (a1)), (2, .inl ((sg_g σ 38 9))), (4, .inl (v5)), (5, .inl (v6)), (6, .inr (.inl ((sx_atl σ 18 200 (v5)))))]) (st' := [.inl (v5), .inr (.inr (.ref 9))]) (σ' := σ65) rfl ?_
              refine wk_callp tt_41 rfl rfl rfl rfl rfl tt_5 rfl (by decide) (at_i0 z σ65 9 200 (v5) rfl (by decide) r13) ?_
              show wx z 2 41 190 [(3, .inl (v60)), (0, .inr (.inr (.ref 38))), (1, .inl (a1)), (2, .inl ((sg_g σ 38 9))), (4, .inl (v5)), (5, .inl (v6)), (6, .inr (.inl ((sx_atl σ 18 200 (v5)))))] [.inl ((sx_at σ65 9 200 (v5)))] σ65 (fun v σ' => v = none ∧ sg_F [16, 29, 30, 32, 33, 34, 39, 40, 7028, 10038, 11038, 13038, 14038] σ σ' ∧ Q σ')
              rw [sx_F (a := 9) (n := 200) (i := (v5)) hF66 rfl, sx_F (a := 9) (n := 200) (i := (v5)) hF45 rfl, sx_F (a := 9) (n := 200) (i := (v5)) hF8 rfl, sx_F (a := 9) (n := 200) (i := (v5)) hF3 rfl]
              obtain ⟨c70, w⟩ := w
              refine wk_b tt_41 3 (pc' := 38) (ls' := [(5, .inl ((v6 + 1))), (4, .inl ((sx_at σ 9 200 (v5)))), (3, .inl (v60)), (0, .inr (.inr (.ref 38))), (1, .inl (a1)), (2, .inl ((sg_g σ 38 9))), (6, .inr (.inl ((sx_atl σ 18 200 (v5)))))]) (st' := []) (σ' := σ65) rfl ?_
              obtain ⟨m71, hm71, w⟩ := w
              exact wk_ls [(0, .inr (.inr (.ref 38))), (1, .inl (a1)), (2, .inl ((sg_g σ 38 9))), (3, .inl (v60)), (4, .inl ((sx_at σ 9 200 (v5)))), (5, .inl ((v6 + 1)))] rfl ⟨rfl, rfl, rfl, rfl, rfl, rfl, trivial⟩ (ih15 m71 hm71 (v60) ((sx_at σ 9 200 (v5))) ((v6 + 1)) σ65 r61 (sx_R ..) c70 (sg_F_t (sg_F_t (sg_F_t (sg_F_r [34, 39, 40, 10038, 11038, 13038, 14038] σ1) (sg_F_m (L := [34, 39, 40, 10038, 11038, 13038, 14038]) hF8 rfl)) (sg_F_m (L := [34, 39, 40, 10038, 11038, 13038, 14038]) hF45 rfl)) (sg_F_m (L := [34, 39, 40, 10038, 11038, 13038, 14038]) hF66 rfl)) w)
            have w := wp
            refine wk_if tt_41 (tgt := 155) rfl rfl r12 (fun (h58 : v4 = 0) => ?_) (fun (h58 : ¬ v4 = 0) => ?_)
            ·
              have w := w.1 h58
              refine wk_b tt_41 1 (pc' := 156) (ls' := [(0, .inr (.inr (.ref 38))), (1, .inl (a1)), (2, .inl ((sg_g σ 38 9))), (3, .inl (v4)), (4, .inl (v5)), (5, .inl (v6)), (6, .inr (.inl ((sx_atl σ 18 200 (v5)))))]) (st' := [.inl (0)]) (σ' := σ44) rfl ?_
              exact wk_ls [(0, .inr (.inr (.ref 38))), (1, .inl (a1)), (2, .inl ((sg_g σ 38 9))), (4, .inl (v5)), (5, .inl (v6)), (6, .inr (.inl ((sx_atl σ 18 200 (v5)))))] rfl ⟨rfl, rfl, rfl, rfl, rfl, rfl, trivial⟩ (jn59 (0) (by simp only [if_pos h58]) (by decide))
            ·
              have w := w.2 h58
              refine wk_b tt_41 4 (pc' := 145) (ls' := [(0, .inr (.inr (.ref 38))), (1, .inl (a1)), (2, .inl ((sg_g σ 38 9))), (3, .inl (v4)), (4, .inl (v5)), (5, .inl (v6)), (6, .inr (.inl ((sx_atl σ 18 200 (v5)))))]) (st' := [.inl (v5), .inr (.inr (.ref 6))]) (σ' := σ44) rfl ?_
              refine wk_callp tt_41 rfl rfl rfl rfl rfl tt_5 rfl (by decide) (at_i0 z σ44 6 200 (v5) rfl (by decide) r13) ?_
              show wx z 2 41 148 [(0, .inr (.inr (.ref 38))), (1, .inl (a1)), (2, .inl ((sg_g σ 38 9))), (3, .inl (v4)), (4, .inl (v5)), (5, .inl (v6)), (6, .inr (.inl ((sx_atl σ 18 200 (v5)))))] [.inl ((sx_at σ44 6 200 (v5)))] σ44 (fun v σ' => v = none ∧ sg_F [16, 29, 30, 32, 33, 34, 39, 40, 7028, 10038, 11038, 13038, 14038] σ σ' ∧ Q σ')
              rw [sx_F (a := 6) (n := 200) (i := (v5)) hF45 rfl, sx_F (a := 6) (n := 200) (i := (v5)) hF8 rfl, sx_F (a := 6) (n := 200) (i := (v5)) hF3 rfl]
              refine wk_if tt_41 (tgt := 155) rfl rfl (sx_R ..) (fun (h72 : (sx_at σ 6 200 (v5)) ≤ 0) => ?_) (fun (h72 : 0 < (sx_at σ 6 200 (v5))) => ?_)
              ·
                have w := w.1 h72
                refine wk_b tt_41 1 (pc' := 156) (ls' := [(0, .inr (.inr (.ref 38))), (1, .inl (a1)), (2, .inl ((sg_g σ 38 9))), (3, .inl (v4)), (4, .inl (v5)), (5, .inl (v6)), (6, .inr (.inl ((sx_atl σ 18 200 (v5)))))]) (st' := [.inl (0)]) (σ' := σ44) rfl ?_
                exact wk_ls [(0, .inr (.inr (.ref 38))), (1, .inl (a1)), (2, .inl ((sg_g σ 38 9))), (4, .inl (v5)), (5, .inl (v6)), (6, .inr (.inl ((sx_atl σ 18 200 (v5)))))] rfl ⟨rfl, rfl, rfl, rfl, rfl, rfl, trivial⟩ (jn59 (0) (by simp only [if_neg (show ¬ (v4 = 0) by omega), if_pos h72]) (by decide))
              ·
                have w := w.2 h72
                refine wk_b tt_41 2 (pc' := 156) (ls' := [(0, .inr (.inr (.ref 38))), (1, .inl (a1)), (2, .inl ((sg_g σ 38 9))), (3, .inl (v4)), (4, .inl (v5)), (5, .inl (v6)), (6, .inr (.inl ((sx_atl σ 18 200 (v5)))))]) (st' := [.inl (1)]) (σ' := σ44) rfl ?_
                exact wk_ls [(0, .inr (.inr (.ref 38))), (1, .inl (a1)), (2, .inl ((sg_g σ 38 9))), (4, .inl (v5)), (5, .inl (v6)), (6, .inr (.inl ((sx_atl σ 18 200 (v5)))))] rfl ⟨rfl, rfl, rfl, rfl, rfl, rfl, trivial⟩ (jn59 (1) (by simp only [if_neg (show ¬ (v4 = 0) by omega), if_neg (show ¬ ((sx_at σ 6 200 (v5)) ≤ 0) by omega)]) (by decide))
          have lp52 : ∀ (n56 : Nat) (v43 : Int) (σ44 : sg_S), sg_R v43 → sg_F [13038, 14038] σ7 σ44 → I46 n56 v43 σ44 → wx z 2 41 77 [(0, .inr (.inr (.ref 38))), (1, .inl (a1)), (2, .inl ((sg_g σ 38 9))), (3, .inl (v4)), (4, .inl (v5)), (5, .inl (v6)), (6, .inr (.inl ((sx_atl σ 18 200 (v5))))), (8, .inl (v43))] [] σ44 (fun v σ' => v = none ∧ sg_F [16, 29, 30, 32, 33, 34, 39, 40, 7028, 10038, 11038, 13038, 14038] σ σ' ∧ Q σ') := by
            intro n56
            induction n56 using Nat.strongRecOn with
            | _ n56 ih50 =>
              intro v43 σ44 r49 hF45 w
              have w := w54 n56 v43 σ44 r49 hF45 w
              refine wk_b tt_41 3 (pc' := 83) (ls' := [(0, .inr (.inr (.ref 38))), (1, .inl (a1)), (2, .inl ((sg_g σ 38 9))), (3, .inl (v4)), (4, .inl (v5)), (5, .inl (v6)), (6, .inr (.inl ((sx_atl σ 18 200 (v5))))), (8, .inl (v43))]) (st' := [.inl ((sg_g σ44 38 9)), .inl (v43)]) (σ' := σ44) rfl ?_
              rw [show (sg_g σ44 38 9) = (sg_g σ7 38 9) from by rw [sg_F_g hF45 rfl]]
              refine wk_if2 tt_41 (tgt := 132) rfl rfl r49 (sg_Rg _ _ _) (fun (h73 : (sg_g σ7 38 9) ≤ v43) => ?_) (fun (h73 : v43 < (sg_g σ7 38 9)) => ?_)
              ·
                have w := w.1 h73
                exact wk_ls [(0, .inr (.inr (.ref 38))), (1, .inl (a1)), (2, .inl ((sg_g σ 38 9))), (3, .inl (v4)), (4, .inl (v5)), (5, .inl (v6)), (6, .inr (.inl ((sx_atl σ 18 200 (v5)))))] rfl ⟨rfl, rfl, rfl, rfl, rfl, rfl, rfl, trivial⟩ (ex57  σ44  (sg_F_t (sg_F_r [13038, 14038] σ7) (sg_F_m (L := [13038, 14038]) hF45 rfl)) w)
              ·
                have w := w.2 h73
                refine wk_b tt_41 2 (pc' := 91) (ls' := [(0, .inr (.inr (.ref 38))), (1, .inl (a1)), (2, .inl ((sg_g σ 38 9))), (3, .inl (v4)), (4, .inl (v5)), (5, .inl (v6)), (6, .inr (.inl ((sx_atl σ 18 200 (v5))))), (8, .inl (v43))]) (st' := [.inl (272), .inl (v43)]) (σ' := σ44) rfl ?_
                refine wk_if2 tt_41 (tgt := 132) rfl rfl r49 (by decide) (fun (h74 : 272 ≤ v43) => ?_) (fun (h74 : v43 < 272) => ?_)
                ·
                  have w := w.1 h74
                  exact wk_ls [(0, .inr (.inr (.ref 38))), (1, .inl (a1)), (2, .inl ((sg_g σ 38 9))), (3, .inl (v4)), (4, .inl (v5)), (5, .inl (v6)), (6, .inr (.inl ((sx_atl σ 18 200 (v5)))))] rfl ⟨rfl, rfl, rfl, rfl, rfl, rfl, rfl, trivial⟩ (ex57  σ44  (sg_F_t (sg_F_r [13038, 14038] σ7) (sg_F_m (L := [13038, 14038]) hF45 rfl)) w)
                ·
                  have w := w.2 h74
                  refine wk_b tt_41 3 (pc' := 100) (ls' := [(0, .inr (.inr (.ref 38))), (1, .inl (a1)), (2, .inl ((sg_g σ 38 9))), (3, .inl (v4)), (4, .inl (v5)), (5, .inl (v6)), (6, .inr (.inl ((sx_atl σ 18 200 (v5))))), (8, .inl (v43))]) (st' := [.inl (v43), .inr (.inr (.ref 39))]) (σ' := σ44) rfl ?_
                  refine wk_callp tt_41 rfl rfl rfl rfl rfl tt_6 rfl (by decide) (at_l0 z σ44 39 272 (v43) rfl (by decide) r49) ?_
                  show wx z 2 41 103 [(0, .inr (.inr (.ref 38))), (1, .inl (a1)), (2, .inl ((sg_g σ 38 9))), (3, .inl (v4)), (4, .inl (v5)), (5, .inl (v6)), (6, .inr (.inl ((sx_atl σ 18 200 (v5))))), (8, .inl (v43))] [.inr (.inl ((sx_atl σ44 39 272 (v43))))] σ44 (fun v σ' => v = none ∧ sg_F [16, 29, 30, 32, 33, 34, 39, 40, 7028, 10038, 11038, 13038, 14038] σ σ' ∧ Q σ')
                  rw [sx_Fl (a := 39) (n := 272) (i := (v43)) hF45 rfl]
                  refine wk_b tt_41 1 (pc' := 105) (ls' := [(0, .inr (.inr (.ref 38))), (1, .inl (a1)), (2, .inl ((sg_g σ 38 9))), (3, .inl (v4)), (4, .inl (v5)), (5, .inl (v6)), (6, .inr (.inl ((sx_atl σ 18 200 (v5))))), (8, .inl (v43))]) (st' := [.inr (.inl ((sx_atl σ 18 200 (v5)))), .inr (.inl ((sx_atl σ7 39 272 (v43))))]) (σ' := σ44) rfl ?_
                  refine wk_lcif tt_41 (tgt := 126) rfl rfl rfl (sx_Rl ..) (sx_Rl ..) (fun (h75 : ¬ (sx_atl σ7 39 272 (v43)) = (sx_atl σ 18 200 (v5))) => ?_) (fun (h75 : (sx_atl σ7 39 272 (v43)) = (sx_atl σ 18 200 (v5))) => ?_)
                  ·
                    have w := w.1 h75
                    obtain ⟨c76, w⟩ := w
                    refine wk_b tt_41 2 (pc' := 77) (ls' := [(8, .inl ((v43 + 1))), (0, .inr (.inr (.ref 38))), (1, .inl (a1)), (2, .inl ((sg_g σ 38 9))), (3, .inl (v4)), (4, .inl (v5)), (5, .inl (v6)), (6, .inr (.inl ((sx_atl σ 18 200 (v5)))))]) (st' := []) (σ' := σ44) rfl ?_
                    obtain ⟨m77, hm77, w⟩ := w
                    exact wk_ls [(0, .inr (.inr (.ref 38))), (1, .inl (a1)), (2, .inl ((sg_g σ 38 9))), (3, .inl (v4)), (4, .inl (v5)), (5, .inl (v6)), (6, .inr (.inl ((sx_atl σ 18 200 (v5))))), (8, .inl ((v43 + 1)))] rfl ⟨rfl, rfl, rfl, rfl, rfl, rfl, rfl, rfl, trivial⟩ (ih50 m77 hm77 ((v43 + 1)) σ44 c76 (sg_F_t (sg_F_r [13038, 14038] σ7) (sg_F_m (L := [13038, 14038]) hF45 rfl)) w)
                  ·
                    have w := w.2 h75
                    refine wk_b tt_41 6 (pc' := 120) (ls' := [(0, .inr (.inr (.ref 38))), (1, .inl (a1)), (2, .inl ((sg_g σ 38 9))), (3, .inl (v4)), (4, .inl (v5)), (5, .inl (v6)), (6, .inr (.inl ((sx_atl σ 18 200 (v5))))), (8, .inl (v43))]) (st' := [.inl (v5), .inr (.inr (.ref 15)), .inl (2), .inr (.inr (.ref 38))]) (σ' := σ44) rfl ?_
                    refine wk_callp tt_41 rfl rfl rfl rfl rfl tt_5 rfl (by decide) (at_i0 z σ44 15 200 (v5) rfl (by decide) r13) ?_
                    show wx z 2 41 123 [(0, .inr (.inr (.ref 38))), (1, .inl (a1)), (2, .inl ((sg_g σ 38 9))), (3, .inl (v4)), (4, .inl (v5)), (5, .inl (v6)), (6, .inr (.inl ((sx_atl σ 18 200 (v5))))), (8, .inl (v43))] [.inl ((sx_at σ44 15 200 (v5))), .inl (2), .inr (.inr (.ref 38))] σ44 (fun v σ' => v = none ∧ sg_F [16, 29, 30, 32, 33, 34, 39, 40, 7028, 10038, 11038, 13038, 14038] σ σ' ∧ Q σ')
                    rw [sx_F (a := 15) (n := 200) (i := (v5)) hF45 rfl, sx_F (a := 15) (n := 200) (i := (v5)) hF8 rfl, sx_F (a := 15) (n := 200) (i := (v5)) hF3 rfl]
                    refine wk_call tt_41 rfl rfl rfl rfl rfl tt_28 rfl (by decide) (w_kBlame z σ44 (2) ((sx_at σ 15 200 (v5))) _ (by decide) (sx_R ..) w) (fun u83 σ79 hq81 => ?_)
                    obtain ⟨rfl, hF80, w⟩ := hq81
                    have w := w hF80
                    obtain ⟨c84, w⟩ := w
                    refine wk_b tt_41 2 (pc' := 77) (ls' := [(8, .inl ((v43 + 1))), (0, .inr (.inr (.ref 38))), (1, .inl (a1)), (2, .inl ((sg_g σ 38 9))), (3, .inl (v4)), (4, .inl (v5)), (5, .inl (v6)), (6, .inr (.inl ((sx_atl σ 18 200 (v5)))))]) (st' := []) (σ' := σ79) rfl ?_
                    obtain ⟨m85, hm85, w⟩ := w
                    exact wk_ls [(0, .inr (.inr (.ref 38))), (1, .inl (a1)), (2, .inl ((sg_g σ 38 9))), (3, .inl (v4)), (4, .inl (v5)), (5, .inl (v6)), (6, .inr (.inl ((sx_atl σ 18 200 (v5))))), (8, .inl ((v43 + 1)))] rfl ⟨rfl, rfl, rfl, rfl, rfl, rfl, rfl, rfl, trivial⟩ (ih50 m85 hm85 ((v43 + 1)) σ79 c84 (sg_F_t (sg_F_t (sg_F_r [13038, 14038] σ7) (sg_F_m (L := [13038, 14038]) hF45 rfl)) (sg_F_m (L := [13038, 14038]) hF80 rfl)) w)
          exact wk_ls [(0, .inr (.inr (.ref 38))), (1, .inl (a1)), (2, .inl ((sg_g σ 38 9))), (3, .inl (v4)), (4, .inl (v5)), (5, .inl (v6)), (6, .inr (.inl ((sx_atl σ 18 200 (v5))))), (8, .inl ((sg_g σ 38 9)))] rfl ⟨rfl, rfl, rfl, rfl, rfl, rfl, rfl, rfl, trivial⟩ (lp52 μ47 ((sg_g σ 38 9)) σ7 (sg_Rg _ _ _) (sg_F_r _ _) w53)
  exact wk_ls [(0, .inr (.inr (.ref 38))), (1, .inl (a1)), (2, .inl ((sg_g σ 38 9))), (3, .inl (1)), (4, .inl ((sx_at σ 7 200 (a1)))), (5, .inl (0))] rfl ⟨rfl, rfl, rfl, rfl, rfl, rfl, trivial⟩ (lp17 μ10 (1) ((sx_at σ 7 200 (a1))) (0) σ1 (by decide) (sx_R ..) (by decide) (sg_F_r _ _) w18)
/-! What the methods of Checker ask for (2). -/
-- NestedVectors$Checker.ahead
def V_kAhead (σ : sg_S) (a1 : Int) (a2 : Int) (Q : sg_S → Prop) : Prop := ((¬ (sx_at σ 3 200 (a1)) = 262 → ((¬ (sx_at σ 3 200 (a1)) = 264 → ((¬ (sx_at σ 3 200 (a1)) = 123 → ((¬ (sx_at σ 3 200 (a1)) = 123 → Q σ) ∧ ((sx_at σ 3 200 (a1)) = 123 → ((a2 ≤ (sx_at σ 13 200 (a1)) → Q σ) ∧ ((sx_at σ 13 200 (a1)) < a2 → V_kpAdd σ (11) (a1) (fun σ7 => sg_F [29, 30, 32, 33, 7028] σ σ7 → Q σ7)))))) ∧ ((sx_at σ 3 200 (a1)) = 123 → ((¬ a2 = (sx_at σ 13 200 (a1)) → ((¬ (sx_at σ 3 200 (a1)) = 123 → Q σ) ∧ ((sx_at σ 3 200 (a1)) = 123 → ((a2 ≤ (sx_at σ 13 200 (a1)) → Q σ) ∧ ((sx_at σ 13 200 (a1)) < a2 → V_kpAdd σ (11) (a1) (fun σ16 => sg_F [29, 30, 32, 33, 7028] σ σ16 → Q σ16)))))) ∧ (a2 = (sx_at σ 13 200 (a1)) → V_kOpen σ (a1) (fun σ22 => sg_F [16, 29, 30, 32, 33, 34, 39, 40, 7028, 10038, 11038, 13038, 14038] σ σ22 → Q σ22)))))) ∧ ((sx_at σ 3 200 (a1)) = 264 → ((a2 ≤ 0 → ((¬ (sx_at σ 3 200 (a1)) = 123 → ((¬ (sx_at σ 3 200 (a1)) = 123 → Q σ) ∧ ((sx_at σ 3 200 (a1)) = 123 → ((a2 ≤ (sx_at σ 13 200 (a1)) → Q σ) ∧ ((sx_at σ 13 200 (a1)) < a2 → V_kpAdd σ (11) (a1) (fun σ32 => sg_F [29, 30, 32, 33, 7028] σ σ32 → Q σ32)))))) ∧ ((sx_at σ 3 200 (a1)) = 123 → ((¬ a2 = (sx_at σ 13 200 (a1)) → ((¬ (sx_at σ 3 200 (a1)) = 123 → Q σ) ∧ ((sx_at σ 3 200 (a1)) = 123 → ((a2 ≤ (sx_at σ 13 200 (a1)) → Q σ) ∧ ((sx_at σ 13 200 (a1)) < a2 → V_kpAdd σ (11) (a1) (fun σ41 => sg_F [29, 30, 32, 33, 7028] σ σ41 → Q σ41)))))) ∧ (a2 = (sx_at σ 13 200 (a1)) → V_kOpen σ (a1) (fun σ47 => sg_F [16, 29, 30, 32, 33, 34, 39, 40, 7028, 10038, 11038, 13038, 14038] σ σ47 → Q σ47)))))) ∧ (0 < a2 → ∀ v54 : Int, v54 = (if ¬ a2 = 1 then (8 : Int) else (7 : Int)) → sg_R v54 → V_kpAdd σ (v54) (a1) (fun σ58 => sg_F [29, 30, 32, 33, 7028] σ σ58 → Q σ58)))))) ∧ ((sx_at σ 3 200 (a1)) = 262 → ((¬ a2 = 1 → ((¬ (sx_at σ 3 200 (a1)) = 264 → ((¬ (sx_at σ 3 200 (a1)) = 123 → ((¬ (sx_at σ 3 200 (a1)) = 123 → Q σ) ∧ ((sx_at σ 3 200 (a1)) = 123 → ((a2 ≤ (sx_at σ 13 200 (a1)) → Q σ) ∧ ((sx_at σ 13 200 (a1)) < a2 → V_kpAdd σ (11) (a1) (fun σ69 => sg_F [29, 30, 32, 33, 7028] σ σ69 → Q σ69)))))) ∧ ((sx_at σ 3 200 (a1)) = 123 → ((¬ a2 = (sx_at σ 13 200 (a1)) → ((¬ (sx_at σ 3 200 (a1)) = 123 → Q σ) ∧ ((sx_at σ 3 200 (a1)) = 123 → ((a2 ≤ (sx_at σ 13 200 (a1)) → Q σ) ∧ ((sx_at σ 13 200 (a1)) < a2 → V_kpAdd σ (11) (a1) (fun σ78 => sg_F [29, 30, 32, 33, 7028] σ σ78 → Q σ78)))))) ∧ (a2 = (sx_at σ 13 200 (a1)) → V_kOpen σ (a1) (fun σ84 => sg_F [16, 29, 30, 32, 33, 34, 39, 40, 7028, 10038, 11038, 13038, 14038] σ σ84 → Q σ84)))))) ∧ ((sx_at σ 3 200 (a1)) = 264 → ((a2 ≤ 0 → ((¬ (sx_at σ 3 200 (a1)) = 123 → ((¬ (sx_at σ 3 200 (a1)) = 123 → Q σ) ∧ ((sx_at σ 3 200 (a1)) = 123 → ((a2 ≤ (sx_at σ 13 200 (a1)) → Q σ) ∧ ((sx_at σ 13 200 (a1)) < a2 → V_kpAdd σ (11) (a1) (fun σ94 => sg_F [29, 30, 32, 33, 7028] σ σ94 → Q σ94)))))) ∧ ((sx_at σ 3 200 (a1)) = 123 → ((¬ a2 = (sx_at σ 13 200 (a1)) → ((¬ (sx_at σ 3 200 (a1)) = 123 → Q σ) ∧ ((sx_at σ 3 200 (a1)) = 123 → ((a2 ≤ (sx_at σ 13 200 (a1)) → Q σ) ∧ ((sx_at σ 13 200 (a1)) < a2 → V_kpAdd σ (11) (a1) (fun σ103 => sg_F [29, 30, 32, 33, 7028] σ σ103 → Q σ103)))))) ∧ (a2 = (sx_at σ 13 200 (a1)) → V_kOpen σ (a1) (fun σ109 => sg_F [16, 29, 30, 32, 33, 34, 39, 40, 7028, 10038, 11038, 13038, 14038] σ σ109 → Q σ109)))))) ∧ (0 < a2 → ∀ v116 : Int, v116 = (if ¬ a2 = 1 then (8 : Int) else (7 : Int)) → sg_R v116 → V_kpAdd σ (v116) (a1) (fun σ120 => sg_F [29, 30, 32, 33, 7028] σ σ120 → Q σ120)))))) ∧ (a2 = 1 → V_kBind σ ((sx_atl σ 17 200 (a1))) ((sx_at σ 6 200 ((sx_at σ 7 200 (a1))))) (fun q125 σ126 => sg_R q125 → sg_F [34, 39, 40, 10038, 11038] σ σ126 → ∀ σ131, σ131 = (sx_put σ126 16 200 (a1) (q125)) → V_kpAdd σ131 (4) (a1) (fun σ135 => sg_F [29, 30, 32, 33, 7028] σ131 σ135 → Q σ135))))))
set_option maxHeartbeats 4000000 in
set_option maxRecDepth 8000 in
theorem w_kAhead (z : Value) (σ : sg_S) (a1 : Int) (a2 : Int) (Q : sg_S → Prop) (ra1 : sg_R a1) (ra2 : sg_R a2) (w : V_kAhead σ a1 a2 Q) : wx z 3 26 0 [(0, .inr (.inr (.ref 38))), (1, .inl (a1)), (2, .inl (a2))] [] σ (fun v σ' => v = none ∧ sg_F [16, 29, 30, 32, 33, 34, 39, 40, 7028, 10038, 11038, 13038, 14038] σ σ' ∧ Q σ') := by
  unfold V_kAhead at w
  refine wk_b tt_26 4 (pc' := 8) (ls' := [(0, .inr (.inr (.ref 38))), (1, .inl (a1)), (2, .inl (a2))]) (st' := [.inl (a1), .inr (.inr (.ref 3))]) (σ' := σ) rfl ?_
  refine wk_callp tt_26 rfl rfl rfl rfl rfl tt_5 rfl (by decide) (at_i0 z σ 3 200 (a1) rfl (by decide) ra1) ?_
  show wx z 3 26 11 [(0, .inr (.inr (.ref 38))), (1, .inl (a1)), (2, .inl (a2))] [.inl ((sx_at σ 3 200 (a1)))] σ (fun v σ' => v = none ∧ sg_F [16, 29, 30, 32, 33, 34, 39, 40, 7028, 10038, 11038, 13038, 14038] σ σ' ∧ Q σ')
  refine wk_b tt_26 3 (pc' := 16) (ls' := [(3, .inl ((sx_at σ 3 200 (a1)))), (0, .inr (.inr (.ref 38))), (1, .inl (a1)), (2, .inl (a2))]) (st' := [.inl (262), .inl ((sx_at σ 3 200 (a1)))]) (σ' := σ) rfl ?_
  refine wk_if2 tt_26 (tgt := 83) rfl rfl (sx_R ..) (by decide) (fun (h1 : ¬ (sx_at σ 3 200 (a1)) = 262) => ?_) (fun (h1 : (sx_at σ 3 200 (a1)) = 262) => ?_)
  ·
    have w := w.1 h1
    refine wk_b tt_26 2 (pc' := 87) (ls' := [(3, .inl ((sx_at σ 3 200 (a1)))), (0, .inr (.inr (.ref 38))), (1, .inl (a1)), (2, .inl (a2))]) (st' := [.inl (264), .inl ((sx_at σ 3 200 (a1)))]) (σ' := σ) rfl ?_
    refine wk_if2 tt_26 (tgt := 117) rfl rfl (sx_R ..) (by decide) (fun (h2 : ¬ (sx_at σ 3 200 (a1)) = 264) => ?_) (fun (h2 : (sx_at σ 3 200 (a1)) = 264) => ?_)
    ·
      have w := w.1 h2
      refine wk_b tt_26 2 (pc' := 120) (ls' := [(3, .inl ((sx_at σ 3 200 (a1)))), (0, .inr (.inr (.ref 38))), (1, .inl (a1)), (2, .inl (a2))]) (st' := [.inl (123), .inl ((sx_at σ 3 200 (a1)))]) (σ' := σ) rfl ?_
      refine wk_if2 tt_26 (tgt := 146) rfl rfl (sx_R ..) (by decide) (fun (h3 : ¬ (sx_at σ 3 200 (a1)) = 123) => ?_) (fun (h3 : (sx_at σ 3 200 (a1)) = 123) => ?_)
      ·
        have w := w.1 h3
        refine wk_b tt_26 2 (pc' := 149) (ls' := [(3, .inl ((sx_at σ 3 200 (a1)))), (0, .inr (.inr (.ref 38))), (1, .inl (a1)), (2, .inl (a2))]) (st' := [.inl (123), .inl ((sx_at σ 3 200 (a1)))]) (σ' := σ) rfl ?_
        refine wk_if2 tt_26 (tgt := 177) rfl rfl (sx_R ..) (by decide) (fun (h4 : ¬ (sx_at σ 3 200 (a1)) = 123) => ?_) (fun (h4 : (sx_at σ 3 200 (a1)) = 123) => ?_)
        ·
          have w := w.1 h4
          exact wk_rV tt_26 rfl rfl ⟨rfl, (sg_F_r [16, 29, 30, 32, 33, 34, 39, 40, 7028, 10038, 11038, 13038, 14038] σ), w⟩
        ·
          have w := w.2 h4
          refine wk_b tt_26 5 (pc' := 161) (ls' := [(3, .inl ((sx_at σ 3 200 (a1)))), (0, .inr (.inr (.ref 38))), (1, .inl (a1)), (2, .inl (a2))]) (st' := [.inl (a1), .inr (.inr (.ref 13)), .inl (a2)]) (σ' := σ) rfl ?_
          refine wk_callp tt_26 rfl rfl rfl rfl rfl tt_5 rfl (by decide) (at_i0 z σ 13 200 (a1) rfl (by decide) ra1) ?_
          show wx z 3 26 164 [(3, .inl ((sx_at σ 3 200 (a1)))), (0, .inr (.inr (.ref 38))), (1, .inl (a1)), (2, .inl (a2))] [.inl ((sx_at σ 13 200 (a1))), .inl (a2)] σ (fun v σ' => v = none ∧ sg_F [16, 29, 30, 32, 33, 34, 39, 40, 7028, 10038, 11038, 13038, 14038] σ σ' ∧ Q σ')
          refine wk_if2 tt_26 (tgt := 177) rfl rfl ra2 (sx_R ..) (fun (h5 : a2 ≤ (sx_at σ 13 200 (a1))) => ?_) (fun (h5 : (sx_at σ 13 200 (a1)) < a2) => ?_)
          ·
            have w := w.1 h5
            exact wk_rV tt_26 rfl rfl ⟨rfl, (sg_F_r [16, 29, 30, 32, 33, 34, 39, 40, 7028, 10038, 11038, 13038, 14038] σ), w⟩
          ·
            have w := w.2 h5
            refine wk_b tt_26 4 (pc' := 174) (ls' := [(3, .inl ((sx_at σ 3 200 (a1)))), (0, .inr (.inr (.ref 38))), (1, .inl (a1)), (2, .inl (a2))]) (st' := [.inl (a1), .inl (11), .inr (.inr (.ref 28))]) (σ' := σ) rfl ?_
            refine wk_call tt_26 rfl rfl rfl rfl rfl tt_193 rfl (by decide) (w_kpAdd z σ (11) (a1) _ (by decide) ra1 w) (fun u11 σ7 hq9 => ?_)
            obtain ⟨rfl, hF8, w⟩ := hq9
            have w := w hF8
            exact wk_rV tt_26 rfl rfl ⟨rfl, (sg_F_t (sg_F_r [16, 29, 30, 32, 33, 34, 39, 40, 7028, 10038, 11038, 13038, 14038] σ) (sg_F_m (L := [16, 29, 30, 32, 33, 34, 39, 40, 7028, 10038, 11038, 13038, 14038]) hF8 rfl)), w⟩
      ·
        have w := w.2 h3
        refine wk_b tt_26 5 (pc' := 132) (ls' := [(3, .inl ((sx_at σ 3 200 (a1)))), (0, .inr (.inr (.ref 38))), (1, .inl (a1)), (2, .inl (a2))]) (st' := [.inl (a1), .inr (.inr (.ref 13)), .inl (a2)]) (σ' := σ) rfl ?_
        refine wk_callp tt_26 rfl rfl rfl rfl rfl tt_5 rfl (by decide) (at_i0 z σ 13 200 (a1) rfl (by decide) ra1) ?_
        show wx z 3 26 135 [(3, .inl ((sx_at σ 3 200 (a1)))), (0, .inr (.inr (.ref 38))), (1, .inl (a1)), (2, .inl (a2))] [.inl ((sx_at σ 13 200 (a1))), .inl (a2)] σ (fun v σ' => v = none ∧ sg_F [16, 29, 30, 32, 33, 34, 39, 40, 7028, 10038, 11038, 13038, 14038] σ σ' ∧ Q σ')
        refine wk_if2 tt_26 (tgt := 146) rfl rfl ra2 (sx_R ..) (fun (h12 : ¬ a2 = (sx_at σ 13 200 (a1))) => ?_) (fun (h12 : a2 = (sx_at σ 13 200 (a1))) => ?_)
        ·
          have w := w.1 h12
          refine wk_b tt_26 2 (pc' := 149) (ls' := [(3, .inl ((sx_at σ 3 200 (a1)))), (0, .inr (.inr (.ref 38))), (1, .inl (a1)), (2, .inl (a2))]) (st' := [.inl (123), .inl ((sx_at σ 3 200 (a1)))]) (σ' := σ) rfl ?_
          refine wk_if2 tt_26 (tgt := 177) rfl rfl (sx_R ..) (by decide) (fun (h13 : ¬ (sx_at σ 3 200 (a1)) = 123) => ?_) (fun (h13 : (sx_at σ 3 200 (a1)) = 123) => ?_)
          ·
            have w := w.1 h13
            exact wk_rV tt_26 rfl rfl ⟨rfl, (sg_F_r [16, 29, 30, 32, 33, 34, 39, 40, 7028, 10038, 11038, 13038, 14038] σ), w⟩
          ·
            have w := w.2 h13
            refine wk_b tt_26 5 (pc' := 161) (ls' := [(3, .inl ((sx_at σ 3 200 (a1)))), (0, .inr (.inr (.ref 38))), (1, .inl (a1)), (2, .inl (a2))]) (st' := [.inl (a1), .inr (.inr (.ref 13)), .inl (a2)]) (σ' := σ) rfl ?_
            refine wk_callp tt_26 rfl rfl rfl rfl rfl tt_5 rfl (by decide) (at_i0 z σ 13 200 (a1) rfl (by decide) ra1) ?_
            show wx z 3 26 164 [(3, .inl ((sx_at σ 3 200 (a1)))), (0, .inr (.inr (.ref 38))), (1, .inl (a1)), (2, .inl (a2))] [.inl ((sx_at σ 13 200 (a1))), .inl (a2)] σ (fun v σ' => v = none ∧ sg_F [16, 29, 30, 32, 33, 34, 39, 40, 7028, 10038, 11038, 13038, 14038] σ σ' ∧ Q σ')
            refine wk_if2 tt_26 (tgt := 177) rfl rfl ra2 (sx_R ..) (fun (h14 : a2 ≤ (sx_at σ 13 200 (a1))) => ?_) (fun (h14 : (sx_at σ 13 200 (a1)) < a2) => ?_)
            ·
              have w := w.1 h14
              exact wk_rV tt_26 rfl rfl ⟨rfl, (sg_F_r [16, 29, 30, 32, 33, 34, 39, 40, 7028, 10038, 11038, 13038, 14038] σ), w⟩
            ·
              have w := w.2 h14
              refine wk_b tt_26 4 (pc' := 174) (ls' := [(3, .inl ((sx_at σ 3 200 (a1)))), (0, .inr (.inr (.ref 38))), (1, .inl (a1)), (2, .inl (a2))]) (st' := [.inl (a1), .inl (11), .inr (.inr (.ref 28))]) (σ' := σ) rfl ?_
              refine wk_call tt_26 rfl rfl rfl rfl rfl tt_193 rfl (by decide) (w_kpAdd z σ (11) (a1) _ (by decide) ra1 w) (fun u20 σ16 hq18 => ?_)
              obtain ⟨rfl, hF17, w⟩ := hq18
              have w := w hF17
              exact wk_rV tt_26 rfl rfl ⟨rfl, (sg_F_t (sg_F_r [16, 29, 30, 32, 33, 34, 39, 40, 7028, 10038, 11038, 13038, 14038] σ) (sg_F_m (L := [16, 29, 30, 32, 33, 34, 39, 40, 7028, 10038, 11038, 13038, 14038]) hF17 rfl)), w⟩
        ·
          have w := w.2 h12
          refine wk_b tt_26 2 (pc' := 140) (ls' := [(3, .inl ((sx_at σ 3 200 (a1)))), (0, .inr (.inr (.ref 38))), (1, .inl (a1)), (2, .inl (a2))]) (st' := [.inl (a1), .inr (.inr (.ref 38))]) (σ' := σ) rfl ?_
          refine wk_call tt_26 rfl rfl rfl rfl rfl tt_41 rfl (by decide) (w_kOpen z σ (a1) _ ra1 w) (fun u26 σ22 hq24 => ?_)
          obtain ⟨rfl, hF23, w⟩ := hq24
          have w := w hF23
          refine wk_b tt_26 1 (pc' := 177) (ls' := [(3, .inl ((sx_at σ 3 200 (a1)))), (0, .inr (.inr (.ref 38))), (1, .inl (a1)), (2, .inl (a2))]) (st' := []) (σ' := σ22) rfl ?_
          exact wk_rV tt_26 rfl rfl ⟨rfl, (sg_F_t (sg_F_r [16, 29, 30, 32, 33, 34, 39, 40, 7028, 10038, 11038, 13038, 14038] σ) (sg_F_m (L := [16, 29, 30, 32, 33, 34, 39, 40, 7028, 10038, 11038, 13038, 14038]) hF23 rfl)), w⟩
    ·
      have w := w.2 h2
      refine wk_b tt_26 1 (pc' := 91) (ls' := [(3, .inl ((sx_at σ 3 200 (a1)))), (0, .inr (.inr (.ref 38))), (1, .inl (a1)), (2, .inl (a2))]) (st' := [.inl (a2)]) (σ' := σ) rfl ?_
      refine wk_if tt_26 (tgt := 117) rfl rfl ra2 (fun (h27 : a2 ≤ 0) => ?_) (fun (h27 : 0 < a2) => ?_)
      ·
        have w := w.1 h27
        refine wk_b tt_26 2 (pc' := 120) (ls' := [(3, .inl ((sx_at σ 3 200 (a1)))), (0, .inr (.inr (.ref 38))), (1, .inl (a1)), (2, .inl (a2))]) (st' := [.inl (123), .inl ((sx_at σ 3 200 (a1)))]) (σ' := σ) rfl ?_
        refine wk_if2 tt_26 (tgt := 146) rfl rfl (sx_R ..) (by decide) (fun (h28 : ¬ (sx_at σ 3 200 (a1)) = 123) => ?_) (fun (h28 : (sx_at σ 3 200 (a1)) = 123) => ?_)
        ·
          have w := w.1 h28
          refine wk_b tt_26 2 (pc' := 149) (ls' := [(3, .inl ((sx_at σ 3 200 (a1)))), (0, .inr (.inr (.ref 38))), (1, .inl (a1)), (2, .inl (a2))]) (st' := [.inl (123), .inl ((sx_at σ 3 200 (a1)))]) (σ' := σ) rfl ?_
          refine wk_if2 tt_26 (tgt := 177) rfl rfl (sx_R ..) (by decide) (fun (h29 : ¬ (sx_at σ 3 200 (a1)) = 123) => ?_) (fun (h29 : (sx_at σ 3 200 (a1)) = 123) => ?_)
          ·
            have w := w.1 h29
            exact wk_rV tt_26 rfl rfl ⟨rfl, (sg_F_r [16, 29, 30, 32, 33, 34, 39, 40, 7028, 10038, 11038, 13038, 14038] σ), w⟩
          ·
            have w := w.2 h29
            refine wk_b tt_26 5 (pc' := 161) (ls' := [(3, .inl ((sx_at σ 3 200 (a1)))), (0, .inr (.inr (.ref 38))), (1, .inl (a1)), (2, .inl (a2))]) (st' := [.inl (a1), .inr (.inr (.ref 13)), .inl (a2)]) (σ' := σ) rfl ?_
            refine wk_callp tt_26 rfl rfl rfl rfl rfl tt_5 rfl (by decide) (at_i0 z σ 13 200 (a1) rfl (by decide) ra1) ?_
            show wx z 3 26 164 [(3, .inl ((sx_at σ 3 200 (a1)))), (0, .inr (.inr (.ref 38))), (1, .inl (a1)), (2, .inl (a2))] [.inl ((sx_at σ 13 200 (a1))), .inl (a2)] σ (fun v σ' => v = none ∧ sg_F [16, 29, 30, 32, 33, 34, 39, 40, 7028, 10038, 11038, 13038, 14038] σ σ' ∧ Q σ')
            refine wk_if2 tt_26 (tgt := 177) rfl rfl ra2 (sx_R ..) (fun (h30 : a2 ≤ (sx_at σ 13 200 (a1))) => ?_) (fun (h30 : (sx_at σ 13 200 (a1)) < a2) => ?_)
            ·
              have w := w.1 h30
              exact wk_rV tt_26 rfl rfl ⟨rfl, (sg_F_r [16, 29, 30, 32, 33, 34, 39, 40, 7028, 10038, 11038, 13038, 14038] σ), w⟩
            ·
              have w := w.2 h30
              refine wk_b tt_26 4 (pc' := 174) (ls' := [(3, .inl ((sx_at σ 3 200 (a1)))), (0, .inr (.inr (.ref 38))), (1, .inl (a1)), (2, .inl (a2))]) (st' := [.inl (a1), .inl (11), .inr (.inr (.ref 28))]) (σ' := σ) rfl ?_
              refine wk_call tt_26 rfl rfl rfl rfl rfl tt_193 rfl (by decide) (w_kpAdd z σ (11) (a1) _ (by decide) ra1 w) (fun u36 σ32 hq34 => ?_)
              obtain ⟨rfl, hF33, w⟩ := hq34
              have w := w hF33
              exact wk_rV tt_26 rfl rfl ⟨rfl, (sg_F_t (sg_F_r [16, 29, 30, 32, 33, 34, 39, 40, 7028, 10038, 11038, 13038, 14038] σ) (sg_F_m (L := [16, 29, 30, 32, 33, 34, 39, 40, 7028, 10038, 11038, 13038, 14038]) hF33 rfl)), w⟩
        ·
          have w := w.2 h28
          refine wk_b tt_26 5 (pc' := 132) (ls' := [(3, .inl ((sx_at σ 3 200 (a1)))), (0, .inr (.inr (.ref 38))), (1, .inl (a1)), (2, .inl (a2))]) (st' := [.inl (a1), .inr (.inr (.ref 13)), .inl (a2)]) (σ' := σ) rfl ?_
          refine wk_callp tt_26 rfl rfl rfl rfl rfl tt_5 rfl (by decide) (at_i0 z σ 13 200 (a1) rfl (by decide) ra1) ?_
          show wx z 3 26 135 [(3, .inl ((sx_at σ 3 200 (a1)))), (0, .inr (.inr (.ref 38))), (1, .inl (a1)), (2, .inl (a2))] [.inl ((sx_at σ 13 200 (a1))), .inl (a2)] σ (fun v σ' => v = none ∧ sg_F [16, 29, 30, 32, 33, 34, 39, 40, 7028, 10038, 11038, 13038, 14038] σ σ' ∧ Q σ')
          refine wk_if2 tt_26 (tgt := 146) rfl rfl ra2 (sx_R ..) (fun (h37 : ¬ a2 = (sx_at σ 13 200 (a1))) => ?_) (fun (h37 : a2 = (sx_at σ 13 200 (a1))) => ?_)
          ·
            have w := w.1 h37
            refine wk_b tt_26 2 (pc' := 149) (ls' := [(3, .inl ((sx_at σ 3 200 (a1)))), (0, .inr (.inr (.ref 38))), (1, .inl (a1)), (2, .inl (a2))]) (st' := [.inl (123), .inl ((sx_at σ 3 200 (a1)))]) (σ' := σ) rfl ?_
            refine wk_if2 tt_26 (tgt := 177) rfl rfl (sx_R ..) (by decide) (fun (h38 : ¬ (sx_at σ 3 200 (a1)) = 123) => ?_) (fun (h38 : (sx_at σ 3 200 (a1)) = 123) => ?_)
            ·
              have w := w.1 h38
              exact wk_rV tt_26 rfl rfl ⟨rfl, (sg_F_r [16, 29, 30, 32, 33, 34, 39, 40, 7028, 10038, 11038, 13038, 14038] σ), w⟩
            ·
              have w := w.2 h38
              refine wk_b tt_26 5 (pc' := 161) (ls' := [(3, .inl ((sx_at σ 3 200 (a1)))), (0, .inr (.inr (.ref 38))), (1, .inl (a1)), (2, .inl (a2))]) (st' := [.inl (a1), .inr (.inr (.ref 13)), .inl (a2)]) (σ' := σ) rfl ?_
              refine wk_callp tt_26 rfl rfl rfl rfl rfl tt_5 rfl (by decide) (at_i0 z σ 13 200 (a1) rfl (by decide) ra1) ?_
              show wx z 3 26 164 [(3, .inl ((sx_at σ 3 200 (a1)))), (0, .inr (.inr (.ref 38))), (1, .inl (a1)), (2, .inl (a2))] [.inl ((sx_at σ 13 200 (a1))), .inl (a2)] σ (fun v σ' => v = none ∧ sg_F [16, 29, 30, 32, 33, 34, 39, 40, 7028, 10038, 11038, 13038, 14038] σ σ' ∧ Q σ')
              refine wk_if2 tt_26 (tgt := 177) rfl rfl ra2 (sx_R ..) (fun (h39 : a2 ≤ (sx_at σ 13 200 (a1))) => ?_) (fun (h39 : (sx_at σ 13 200 (a1)) < a2) => ?_)
              ·
                have w := w.1 h39
                exact wk_rV tt_26 rfl rfl ⟨rfl, (sg_F_r [16, 29, 30, 32, 33, 34, 39, 40, 7028, 10038, 11038, 13038, 14038] σ), w⟩
              ·
                have w := w.2 h39
                refine wk_b tt_26 4 (pc' := 174) (ls' := [(3, .inl ((sx_at σ 3 200 (a1)))), (0, .inr (.inr (.ref 38))), (1, .inl (a1)), (2, .inl (a2))]) (st' := [.inl (a1), .inl (11), .inr (.inr (.ref 28))]) (σ' := σ) rfl ?_
                refine wk_call tt_26 rfl rfl rfl rfl rfl tt_193 rfl (by decide) (w_kpAdd z σ (11) (a1) _ (by decide) ra1 w) (fun u45 σ41 hq43 => ?_)
                obtain ⟨rfl, hF42, w⟩ := hq43
                have w := w hF42
                exact wk_rV tt_26 rfl rfl ⟨rfl, (sg_F_t (sg_F_r [16, 29, 30, 32, 33, 34, 39, 40, 7028, 10038, 11038, 13038, 14038] σ) (sg_F_m (L := [16, 29, 30, 32, 33, 34, 39, 40, 7028, 10038, 11038, 13038, 14038]) hF42 rfl)), w⟩
          ·
            have w := w.2 h37
            refine wk_b tt_26 2 (pc' := 140) (ls' := [(3, .inl ((sx_at σ 3 200 (a1)))), (0, .inr (.inr (.ref 38))), (1, .inl (a1)), (2, .inl (a2))]) (st' := [.inl (a1), .inr (.inr (.ref 38))]) (σ' := σ) rfl ?_
            refine wk_call tt_26 rfl rfl rfl rfl rfl tt_41 rfl (by decide) (w_kOpen z σ (a1) _ ra1 w) (fun u51 σ47 hq49 => ?_)
            obtain ⟨rfl, hF48, w⟩ := hq49
            have w := w hF48
            refine wk_b tt_26 1 (pc' := 177) (ls' := [(3, .inl ((sx_at σ 3 200 (a1)))), (0, .inr (.inr (.ref 38))), (1, .inl (a1)), (2, .inl (a2))]) (st' := []) (σ' := σ47) rfl ?_
            exact wk_rV tt_26 rfl rfl ⟨rfl, (sg_F_t (sg_F_r [16, 29, 30, 32, 33, 34, 39, 40, 7028, 10038, 11038, 13038, 14038] σ) (sg_F_m (L := [16, 29, 30, 32, 33, 34, 39, 40, 7028, 10038, 11038, 13038, 14038]) hF48 rfl)), w⟩
      ·
        have w := w.2 h27
        refine wk_b tt_26 4 (pc' := 100) (ls' := [(3, .inl ((sx_at σ 3 200 (a1)))), (0, .inr (.inr (.ref 38))), (1, .inl (a1)), (2, .inl (a2))]) (st' := [.inl (1), .inl (a2), .inr (.inr (.ref 28))]) (σ' := σ) rfl ?_
        have jn53 : ∀ v54 : Int, v54 = (if ¬ a2 = 1 then (8 : Int) else (7 : Int)) → sg_R v54 → wx z 3 26 110 [(1, .inl (a1))] [.inl (v54), .inr (.inr (.ref 28))] σ (fun v σ' => v = none ∧ sg_F [16, 29, 30, 32, 33, 34, 39, 40, 7028, 10038, 11038, 13038, 14038] σ σ' ∧ Q σ') := by
          intro v54 e56 r55
          have w := w v54 e56 r55
          refine wk_b tt_26 1 (pc' := 111) (ls' := [(1, .inl (a1))]) (st' := [.inl (a1), .inl (v54), .inr (.inr (.ref 28))]) (σ' := σ) rfl ?_
          refine wk_call tt_26 rfl rfl rfl rfl rfl tt_193 rfl (by decide) (w_kpAdd z σ (v54) (a1) _ r55 ra1 w) (fun u62 σ58 hq60 => ?_)
          obtain ⟨rfl, hF59, w⟩ := hq60
          have w := w hF59
          refine wk_b tt_26 1 (pc' := 177) (ls' := [(1, .inl (a1))]) (st' := []) (σ' := σ58) rfl ?_
          exact wk_rV tt_26 rfl rfl ⟨rfl, (sg_F_t (sg_F_r [16, 29, 30, 32, 33, 34, 39, 40, 7028, 10038, 11038, 13038, 14038] σ) (sg_F_m (L := [16, 29, 30, 32, 33, 34, 39, 40, 7028, 10038, 11038, 13038, 14038]) hF59 rfl)), w⟩
        refine wk_if2 tt_26 (tgt := 108) rfl rfl ra2 (by decide) (fun (h52 : ¬ a2 = 1) => ?_) (fun (h52 : a2 = 1) => ?_)
        ·
          clear w
          refine wk_b tt_26 1 (pc' := 110) (ls' := [(3, .inl ((sx_at σ 3 200 (a1)))), (0, .inr (.inr (.ref 38))), (1, .inl (a1)), (2, .inl (a2))]) (st' := [.inl (8), .inr (.inr (.ref 28))]) (σ' := σ) rfl ?_
          exact wk_ls [(1, .inl (a1))] rfl ⟨rfl, trivial⟩ (jn53 (8) (by simp only [if_pos h52]) (by decide))
        ·
          clear w
          refine wk_b tt_26 2 (pc' := 110) (ls' := [(3, .inl ((sx_at σ 3 200 (a1)))), (0, .inr (.inr (.ref 38))), (1, .inl (a1)), (2, .inl (a2))]) (st' := [.inl (7), .inr (.inr (.ref 28))]) (σ' := σ) rfl ?_
          exact wk_ls [(1, .inl (a1))] rfl ⟨rfl, trivial⟩ (jn53 (7) (by simp only [if_neg (show ¬ (¬ a2 = 1) by omega)]) (by decide))
  ·
    have w := w.2 h1
    refine wk_b tt_26 2 (pc' := 21) (ls' := [(3, .inl ((sx_at σ 3 200 (a1)))), (0, .inr (.inr (.ref 38))), (1, .inl (a1)), (2, .inl (a2))]) (st' := [.inl (1), .inl (a2)]) (σ' := σ) rfl ?_
    refine wk_if2 tt_26 (tgt := 83) rfl rfl ra2 (by decide) (fun (h63 : ¬ a2 = 1) => ?_) (fun (h63 : a2 = 1) => ?_)
    ·
      have w := w.1 h63
      refine wk_b tt_26 2 (pc' := 87) (ls' := [(3, .inl ((sx_at σ 3 200 (a1)))), (0, .inr (.inr (.ref 38))), (1, .inl (a1)), (2, .inl (a2))]) (st' := [.inl (264), .inl ((sx_at σ 3 200 (a1)))]) (σ' := σ) rfl ?_
      refine wk_if2 tt_26 (tgt := 117) rfl rfl (sx_R ..) (by decide) (fun (h64 : ¬ (sx_at σ 3 200 (a1)) = 264) => ?_) (fun (h64 : (sx_at σ 3 200 (a1)) = 264) => ?_)
      ·
        have w := w.1 h64
        refine wk_b tt_26 2 (pc' := 120) (ls' := [(3, .inl ((sx_at σ 3 200 (a1)))), (0, .inr (.inr (.ref 38))), (1, .inl (a1)), (2, .inl (a2))]) (st' := [.inl (123), .inl ((sx_at σ 3 200 (a1)))]) (σ' := σ) rfl ?_
        refine wk_if2 tt_26 (tgt := 146) rfl rfl (sx_R ..) (by decide) (fun (h65 : ¬ (sx_at σ 3 200 (a1)) = 123) => ?_) (fun (h65 : (sx_at σ 3 200 (a1)) = 123) => ?_)
        ·
          have w := w.1 h65
          refine wk_b tt_26 2 (pc' := 149) (ls' := [(3, .inl ((sx_at σ 3 200 (a1)))), (0, .inr (.inr (.ref 38))), (1, .inl (a1)), (2, .inl (a2))]) (st' := [.inl (123), .inl ((sx_at σ 3 200 (a1)))]) (σ' := σ) rfl ?_
          refine wk_if2 tt_26 (tgt := 177) rfl rfl (sx_R ..) (by decide) (fun (h66 : ¬ (sx_at σ 3 200 (a1)) = 123) => ?_) (fun (h66 : (sx_at σ 3 200 (a1)) = 123) => ?_)
          ·
            have w := w.1 h66
            exact wk_rV tt_26 rfl rfl ⟨rfl, (sg_F_r [16, 29, 30, 32, 33, 34, 39, 40, 7028, 10038, 11038, 13038, 14038] σ), w⟩
          ·
            have w := w.2 h66
            refine wk_b tt_26 5 (pc' := 161) (ls' := [(3, .inl ((sx_at σ 3 200 (a1)))), (0, .inr (.inr (.ref 38))), (1, .inl (a1)), (2, .inl (a2))]) (st' := [.inl (a1), .inr (.inr (.ref 13)), .inl (a2)]) (σ' := σ) rfl ?_
            refine wk_callp tt_26 rfl rfl rfl rfl rfl tt_5 rfl (by decide) (at_i0 z σ 13 200 (a1) rfl (by decide) ra1) ?_
            show wx z 3 26 164 [(3, .inl ((sx_at σ 3 200 (a1)))), (0, .inr (.inr (.ref 38))), (1, .inl (a1)), (2, .inl (a2))] [.inl ((sx_at σ 13 200 (a1))), .inl (a2)] σ (fun v σ' => v = none ∧ sg_F [16, 29, 30, 32, 33, 34, 39, 40, 7028, 10038, 11038, 13038, 14038] σ σ' ∧ Q σ')
            refine wk_if2 tt_26 (tgt := 177) rfl rfl ra2 (sx_R ..) (fun (h67 : a2 ≤ (sx_at σ 13 200 (a1))) => ?_) (fun (h67 : (sx_at σ 13 200 (a1)) < a2) => ?_)
            ·
              have w := w.1 h67
              exact wk_rV tt_26 rfl rfl ⟨rfl, (sg_F_r [16, 29, 30, 32, 33, 34, 39, 40, 7028, 10038, 11038, 13038, 14038] σ), w⟩
            ·
              have w := w.2 h67
              refine wk_b tt_26 4 (pc' := 174) (ls' := [(3, .inl ((sx_at σ 3 200 (a1)))), (0, .inr (.inr (.ref 38))), (1, .inl (a1)), (2, .inl (a2))]) (st' := [.inl (a1), .inl (11), .inr (.inr (.ref 28))]) (σ' := σ) rfl ?_
              refine wk_call tt_26 rfl rfl rfl rfl rfl tt_193 rfl (by decide) (w_kpAdd z σ (11) (a1) _ (by decide) ra1 w) (fun u73 σ69 hq71 => ?_)
              obtain ⟨rfl, hF70, w⟩ := hq71
              have w := w hF70
              exact wk_rV tt_26 rfl rfl ⟨rfl, (sg_F_t (sg_F_r [16, 29, 30, 32, 33, 34, 39, 40, 7028, 10038, 11038, 13038, 14038] σ) (sg_F_m (L := [16, 29, 30, 32, 33, 34, 39, 40, 7028, 10038, 11038, 13038, 14038]) hF70 rfl)), w⟩
        ·
          have w := w.2 h65
          refine wk_b tt_26 5 (pc' := 132) (ls' := [(3, .inl ((sx_at σ 3 200 (a1)))), (0, .inr (.inr (.ref 38))), (1, .inl (a1)), (2, .inl (a2))]) (st' := [.inl (a1), .inr (.inr (.ref 13)), .inl (a2)]) (σ' := σ) rfl ?_
          refine wk_callp tt_26 rfl rfl rfl rfl rfl tt_5 rfl (by decide) (at_i0 z σ 13 200 (a1) rfl (by decide) ra1) ?_
          show wx z 3 26 135 [(3, .inl ((sx_at σ 3 200 (a1)))), (0, .inr (.inr (.ref 38))), (1, .inl (a1)), (2, .inl (a2))] [.inl ((sx_at σ 13 200 (a1))), .inl (a2)] σ (fun v σ' => v = none ∧ sg_F [16, 29, 30, 32, 33, 34, 39, 40, 7028, 10038, 11038, 13038, 14038] σ σ' ∧ Q σ')
          refine wk_if2 tt_26 (tgt := 146) rfl rfl ra2 (sx_R ..) (fun (h74 : ¬ a2 = (sx_at σ 13 200 (a1))) => ?_) (fun (h74 : a2 = (sx_at σ 13 200 (a1))) => ?_)
          ·
            have w := w.1 h74
            refine wk_b tt_26 2 (pc' := 149) (ls' := [(3, .inl ((sx_at σ 3 200 (a1)))), (0, .inr (.inr (.ref 38))), (1, .inl (a1)), (2, .inl (a2))]) (st' := [.inl (123), .inl ((sx_at σ 3 200 (a1)))]) (σ' := σ) rfl ?_
            refine wk_if2 tt_26 (tgt := 177) rfl rfl (sx_R ..) (by decide) (fun (h75 : ¬ (sx_at σ 3 200 (a1)) = 123) => ?_) (fun (h75 : (sx_at σ 3 200 (a1)) = 123) => ?_)
            ·
              have w := w.1 h75
              exact wk_rV tt_26 rfl rfl ⟨rfl, (sg_F_r [16, 29, 30, 32, 33, 34, 39, 40, 7028, 10038, 11038, 13038, 14038] σ), w⟩
            ·
              have w := w.2 h75
              refine wk_b tt_26 5 (pc' := 161) (ls' := [(3, .inl ((sx_at σ 3 200 (a1)))), (0, .inr (.inr (.ref 38))), (1, .inl (a1)), (2, .inl (a2))]) (st' := [.inl (a1), .inr (.inr (.ref 13)), .inl (a2)]) (σ' := σ) rfl ?_
              refine wk_callp tt_26 rfl rfl rfl rfl rfl tt_5 rfl (by decide) (at_i0 z σ 13 200 (a1) rfl (by decide) ra1) ?_
              show wx z 3 26 164 [(3, .inl ((sx_at σ 3 200 (a1)))), (0, .inr (.inr (.ref 38))), (1, .inl (a1)), (2, .inl (a2))] [.inl ((sx_at σ 13 200 (a1))), .inl (a2)] σ (fun v σ' => v = none ∧ sg_F [16, 29, 30, 32, 33, 34, 39, 40, 7028, 10038, 11038, 13038, 14038] σ σ' ∧ Q σ')
              refine wk_if2 tt_26 (tgt := 177) rfl rfl ra2 (sx_R ..) (fun (h76 : a2 ≤ (sx_at σ 13 200 (a1))) => ?_) (fun (h76 : (sx_at σ 13 200 (a1)) < a2) => ?_)
              ·
                have w := w.1 h76
                exact wk_rV tt_26 rfl rfl ⟨rfl, (sg_F_r [16, 29, 30, 32, 33, 34, 39, 40, 7028, 10038, 11038, 13038, 14038] σ), w⟩
              ·
                have w := w.2 h76
                refine wk_b tt_26 4 (pc' := 174) (ls' := [(3, .inl ((sx_at σ 3 200 (a1)))), (0, .inr (.inr (.ref 38))), (1, .inl (a1)), (2, .inl (a2))]) (st' := [.inl (a1), .inl (11), .inr (.inr (.ref 28))]) (σ' := σ) rfl ?_
                refine wk_call tt_26 rfl rfl rfl rfl rfl tt_193 rfl (by decide) (w_kpAdd z σ (11) (a1) _ (by decide) ra1 w) (fun u82 σ78 hq80 => ?_)
                obtain ⟨rfl, hF79, w⟩ := hq80
                have w := w hF79
                exact wk_rV tt_26 rfl rfl ⟨rfl, (sg_F_t (sg_F_r [16, 29, 30, 32, 33, 34, 39, 40, 7028, 10038, 11038, 13038, 14038] σ) (sg_F_m (L := [16, 29, 30, 32, 33, 34, 39, 40, 7028, 10038, 11038, 13038, 14038]) hF79 rfl)), w⟩
          ·
            have w := w.2 h74
            refine wk_b tt_26 2 (pc' := 140) (ls' := [(3, .inl ((sx_at σ 3 200 (a1)))), (0, .inr (.inr (.ref 38))), (1, .inl (a1)), (2, .inl (a2))]) (st' := [.inl (a1), .inr (.inr (.ref 38))]) (σ' := σ) rfl ?_
            refine wk_call tt_26 rfl rfl rfl rfl rfl tt_41 rfl (by decide) (w_kOpen z σ (a1) _ ra1 w) (fun u88 σ84 hq86 => ?_)
            obtain ⟨rfl, hF85, w⟩ := hq86
            have w := w hF85
            refine wk_b tt_26 1 (pc' := 177) (ls' := [(3, .inl ((sx_at σ 3 200 (a1)))), (0, .inr (.inr (.ref 38))), (1, .inl (a1)), (2, .inl (a2))]) (st' := []) (σ' := σ84) rfl ?_
            exact wk_rV tt_26 rfl rfl ⟨rfl, (sg_F_t (sg_F_r [16, 29, 30, 32, 33, 34, 39, 40, 7028, 10038, 11038, 13038, 14038] σ) (sg_F_m (L := [16, 29, 30, 32, 33, 34, 39, 40, 7028, 10038, 11038, 13038, 14038]) hF85 rfl)), w⟩
      ·
        have w := w.2 h64
        refine wk_b tt_26 1 (pc' := 91) (ls' := [(3, .inl ((sx_at σ 3 200 (a1)))), (0, .inr (.inr (.ref 38))), (1, .inl (a1)), (2, .inl (a2))]) (st' := [.inl (a2)]) (σ' := σ) rfl ?_
        refine wk_if tt_26 (tgt := 117) rfl rfl ra2 (fun (h89 : a2 ≤ 0) => ?_) (fun (h89 : 0 < a2) => ?_)
        ·
          have w := w.1 h89
          refine wk_b tt_26 2 (pc' := 120) (ls' := [(3, .inl ((sx_at σ 3 200 (a1)))), (0, .inr (.inr (.ref 38))), (1, .inl (a1)), (2, .inl (a2))]) (st' := [.inl (123), .inl ((sx_at σ 3 200 (a1)))]) (σ' := σ) rfl ?_
          refine wk_if2 tt_26 (tgt := 146) rfl rfl (sx_R ..) (by decide) (fun (h90 : ¬ (sx_at σ 3 200 (a1)) = 123) => ?_) (fun (h90 : (sx_at σ 3 200 (a1)) = 123) => ?_)
          ·
            have w := w.1 h90
            refine wk_b tt_26 2 (pc' := 149) (ls' := [(3, .inl ((sx_at σ 3 200 (a1)))), (0, .inr (.inr (.ref 38))), (1, .inl (a1)), (2, .inl (a2))]) (st' := [.inl (123), .inl ((sx_at σ 3 200 (a1)))]) (σ' := σ) rfl ?_
            refine wk_if2 tt_26 (tgt := 177) rfl rfl (sx_R ..) (by decide) (fun (h91 : ¬ (sx_at σ 3 200 (a1)) = 123) => ?_) (fun (h91 : (sx_at σ 3 200 (a1)) = 123) => ?_)
            ·
              have w := w.1 h91
              exact wk_rV tt_26 rfl rfl ⟨rfl, (sg_F_r [16, 29, 30, 32, 33, 34, 39, 40, 7028, 10038, 11038, 13038, 14038] σ), w⟩
            ·
              have w := w.2 h91
              refine wk_b tt_26 5 (pc' := 161) (ls' := [(3, .inl ((sx_at σ 3 200 (a1)))), (0, .inr (.inr (.ref 38))), (1, .inl (a1)), (2, .inl (a2))]) (st' := [.inl (a1), .inr (.inr (.ref 13)), .inl (a2)]) (σ' := σ) rfl ?_
              refine wk_callp tt_26 rfl rfl rfl rfl rfl tt_5 rfl (by decide) (at_i0 z σ 13 200 (a1) rfl (by decide) ra1) ?_
              show wx z 3 26 164 [(3, .inl ((sx_at σ 3 200 (a1)))), (0, .inr (.inr (.ref 38))), (1, .inl (a1)), (2, .inl (a2))] [.inl ((sx_at σ 13 200 (a1))), .inl (a2)] σ (fun v σ' => v = none ∧ sg_F [16, 29, 30, 32, 33, 34, 39, 40, 7028, 10038, 11038, 13038, 14038] σ σ' ∧ Q σ')
              refine wk_if2 tt_26 (tgt := 177) rfl rfl ra2 (sx_R ..) (fun (h92 : a2 ≤ (sx_at σ 13 200 (a1))) => ?_) (fun (h92 : (sx_at σ 13 200 (a1)) < a2) => ?_)
              ·
                have w := w.1 h92
                exact wk_rV tt_26 rfl rfl ⟨rfl, (sg_F_r [16, 29, 30, 32, 33, 34, 39, 40, 7028, 10038, 11038, 13038, 14038] σ), w⟩
              ·
                have w := w.2 h92
                refine wk_b tt_26 4 (pc' := 174) (ls' := [(3, .inl ((sx_at σ 3 200 (a1)))), (0, .inr (.inr (.ref 38))), (1, .inl (a1)), (2, .inl (a2))]) (st' := [.inl (a1), .inl (11), .inr (.inr (.ref 28))]) (σ' := σ) rfl ?_
                refine wk_call tt_26 rfl rfl rfl rfl rfl tt_193 rfl (by decide) (w_kpAdd z σ (11) (a1) _ (by decide) ra1 w) (fun u98 σ94 hq96 => ?_)
                obtain ⟨rfl, hF95, w⟩ := hq96
                have w := w hF95
                exact wk_rV tt_26 rfl rfl ⟨rfl, (sg_F_t (sg_F_r [16, 29, 30, 32, 33, 34, 39, 40, 7028, 10038, 11038, 13038, 14038] σ) (sg_F_m (L := [16, 29, 30, 32, 33, 34, 39, 40, 7028, 10038, 11038, 13038, 14038]) hF95 rfl)), w⟩
          ·
            have w := w.2 h90
            refine wk_b tt_26 5 (pc' := 132) (ls' := [(3, .inl ((sx_at σ 3 200 (a1)))), (0, .inr (.inr (.ref 38))), (1, .inl (a1)), (2, .inl (a2))]) (st' := [.inl (a1), .inr (.inr (.ref 13)), .inl (a2)]) (σ' := σ) rfl ?_
            refine wk_callp tt_26 rfl rfl rfl rfl rfl tt_5 rfl (by decide) (at_i0 z σ 13 200 (a1) rfl (by decide) ra1) ?_
            show wx z 3 26 135 [(3, .inl ((sx_at σ 3 200 (a1)))), (0, .inr (.inr (.ref 38))), (1, .inl (a1)), (2, .inl (a2))] [.inl ((sx_at σ 13 200 (a1))), .inl (a2)] σ (fun v σ' => v = none ∧ sg_F [16, 29, 30, 32, 33, 34, 39, 40, 7028, 10038, 11038, 13038, 14038] σ σ' ∧ Q σ')
            refine wk_if2 tt_26 (tgt := 146) rfl rfl ra2 (sx_R ..) (fun (h99 : ¬ a2 = (sx_at σ 13 200 (a1))) => ?_) (fun (h99 : a2 = (sx_at σ 13 200 (a1))) => ?_)
            ·
              have w := w.1 h99
              refine wk_b tt_26 2 (pc' := 149) (ls' := [(3, .inl ((sx_at σ 3 200 (a1)))), (0, .inr (.inr (.ref 38))), (1, .inl (a1)), (2, .inl (a2))]) (st' := [.inl (123), .inl ((sx_at σ 3 200 (a1)))]) (σ' := σ) rfl ?_
              refine wk_if2 tt_26 (tgt := 177) rfl rfl (sx_R ..) (by decide) (fun (h100 : ¬ (sx_at σ 3 200 (a1)) = 123) => ?_) (fun (h100 : (sx_at σ 3 200 (a1)) = 123) => ?_)
              ·
                have w := w.1 h100
                exact wk_rV tt_26 rfl rfl ⟨rfl, (sg_F_r [16, 29, 30, 32, 33, 34, 39, 40, 7028, 10038, 11038, 13038, 14038] σ), w⟩
              ·
                have w := w.2 h100
                refine wk_b tt_26 5 (pc' := 161) (ls' := [(3, .inl ((sx_at σ 3 200 (a1)))), (0, .inr (.inr (.ref 38))), (1, .inl (a1)), (2, .inl (a2))]) (st' := [.inl (a1), .inr (.inr (.ref 13)), .inl (a2)]) (σ' := σ) rfl ?_
                refine wk_callp tt_26 rfl rfl rfl rfl rfl tt_5 rfl (by decide) (at_i0 z σ 13 200 (a1) rfl (by decide) ra1) ?_
                show wx z 3 26 164 [(3, .inl ((sx_at σ 3 200 (a1)))), (0, .inr (.inr (.ref 38))), (1, .inl (a1)), (2, .inl (a2))] [.inl ((sx_at σ 13 200 (a1))), .inl (a2)] σ (fun v σ' => v = none ∧ sg_F [16, 29, 30, 32, 33, 34, 39, 40, 7028, 10038, 11038, 13038, 14038] σ σ' ∧ Q σ')
                refine wk_if2 tt_26 (tgt := 177) rfl rfl ra2 (sx_R ..) (fun (h101 : a2 ≤ (sx_at σ 13 200 (a1))) => ?_) (fun (h101 : (sx_at σ 13 200 (a1)) < a2) => ?_)
                ·
                  have w := w.1 h101
                  exact wk_rV tt_26 rfl rfl ⟨rfl, (sg_F_r [16, 29, 30, 32, 33, 34, 39, 40, 7028, 10038, 11038, 13038, 14038] σ), w⟩
                ·
                  have w := w.2 h101
                  refine wk_b tt_26 4 (pc' := 174) (ls' := [(3, .inl ((sx_at σ 3 200 (a1)))), (0, .inr (.inr (.ref 38))), (1, .inl (a1)), (2, .inl (a2))]) (st' := [.inl (a1), .inl (11), .inr (.inr (.ref 28))]) (σ' := σ) rfl ?_
                  refine wk_call tt_26 rfl rfl rfl rfl rfl tt_193 rfl (by decide) (w_kpAdd z σ (11) (a1) _ (by decide) ra1 w) (fun u107 σ103 hq105 => ?_)
                  obtain ⟨rfl, hF104, w⟩ := hq105
                  have w := w hF104
                  exact wk_rV tt_26 rfl rfl ⟨rfl, (sg_F_t (sg_F_r [16, 29, 30, 32, 33, 34, 39, 40, 7028, 10038, 11038, 13038, 14038] σ) (sg_F_m (L := [16, 29, 30, 32, 33, 34, 39, 40, 7028, 10038, 11038, 13038, 14038]) hF104 rfl)), w⟩
            ·
              have w := w.2 h99
              refine wk_b tt_26 2 (pc' := 140) (ls' := [(3, .inl ((sx_at σ 3 200 (a1)))), (0, .inr (.inr (.ref 38))), (1, .inl (a1)), (2, .inl (a2))]) (st' := [.inl (a1), .inr (.inr (.ref 38))]) (σ' := σ) rfl ?_
              refine wk_call tt_26 rfl rfl rfl rfl rfl tt_41 rfl (by decide) (w_kOpen z σ (a1) _ ra1 w) (fun u113 σ109 hq111 => ?_)
              obtain ⟨rfl, hF110, w⟩ := hq111
              have w := w hF110
              refine wk_b tt_26 1 (pc' := 177) (ls' := [(3, .inl ((sx_at σ 3 200 (a1)))), (0, .inr (.inr (.ref 38))), (1, .inl (a1)), (2, .inl (a2))]) (st' := []) (σ' := σ109) rfl ?_
              exact wk_rV tt_26 rfl rfl ⟨rfl, (sg_F_t (sg_F_r [16, 29, 30, 32, 33, 34, 39, 40, 7028, 10038, 11038, 13038, 14038] σ) (sg_F_m (L := [16, 29, 30, 32, 33, 34, 39, 40, 7028, 10038, 11038, 13038, 14038]) hF110 rfl)), w⟩
        ·
          have w := w.2 h89
          refine wk_b tt_26 4 (pc' := 100) (ls' := [(3, .inl ((sx_at σ 3 200 (a1)))), (0, .inr (.inr (.ref 38))), (1, .inl (a1)), (2, .inl (a2))]) (st' := [.inl (1), .inl (a2), .inr (.inr (.ref 28))]) (σ' := σ) rfl ?_
          have jn115 : ∀ v116 : Int, v116 = (if ¬ a2 = 1 then (8 : Int) else (7 : Int)) → sg_R v116 → wx z 3 26 110 [(1, .inl (a1))] [.inl (v116), .inr (.inr (.ref 28))] σ (fun v σ' => v = none ∧ sg_F [16, 29, 30, 32, 33, 34, 39, 40, 7028, 10038, 11038, 13038, 14038] σ σ' ∧ Q σ') := by
            intro v116 e118 r117
            have w := w v116 e118 r117
            refine wk_b tt_26 1 (pc' := 111) (ls' := [(1, .inl (a1))]) (st' := [.inl (a1), .inl (v116), .inr (.inr (.ref 28))]) (σ' := σ) rfl ?_
            refine wk_call tt_26 rfl rfl rfl rfl rfl tt_193 rfl (by decide) (w_kpAdd z σ (v116) (a1) _ r117 ra1 w) (fun u124 σ120 hq122 => ?_)
            obtain ⟨rfl, hF121, w⟩ := hq122
            have w := w hF121
            refine wk_b tt_26 1 (pc' := 177) (ls' := [(1, .inl (a1))]) (st' := []) (σ' := σ120) rfl ?_
            exact wk_rV tt_26 rfl rfl ⟨rfl, (sg_F_t (sg_F_r [16, 29, 30, 32, 33, 34, 39, 40, 7028, 10038, 11038, 13038, 14038] σ) (sg_F_m (L := [16, 29, 30, 32, 33, 34, 39, 40, 7028, 10038, 11038, 13038, 14038]) hF121 rfl)), w⟩
          refine wk_if2 tt_26 (tgt := 108) rfl rfl ra2 (by decide) (fun (h114 : ¬ a2 = 1) => ?_) (fun (h114 : a2 = 1) => ?_)
          ·
            clear w
            refine wk_b tt_26 1 (pc' := 110) (ls' := [(3, .inl ((sx_at σ 3 200 (a1)))), (0, .inr (.inr (.ref 38))), (1, .inl (a1)), (2, .inl (a2))]) (st' := [.inl (8), .inr (.inr (.ref 28))]) (σ' := σ) rfl ?_
            exact wk_ls [(1, .inl (a1))] rfl ⟨rfl, trivial⟩ (jn115 (8) (by simp only [if_pos h114]) (by decide))
          ·
            clear w
            refine wk_b tt_26 2 (pc' := 110) (ls' := [(3, .inl ((sx_at σ 3 200 (a1)))), (0, .inr (.inr (.ref 38))), (1, .inl (a1)), (2, .inl (a2))]) (st' := [.inl (7), .inr (.inr (.ref 28))]) (σ' := σ) rfl ?_
            exact wk_ls [(1, .inl (a1))] rfl ⟨rfl, trivial⟩ (jn115 (7) (by simp only [if_neg (show ¬ (¬ a2 = 1) by omega)]) (by decide))
    ·
      have w := w.2 h63
      refine wk_b tt_26 9 (pc' := 41) (ls' := [(3, .inl ((sx_at σ 3 200 (a1)))), (0, .inr (.inr (.ref 38))), (1, .inl (a1)), (2, .inl (a2))]) (st' := [.inl (a1), .inr (.inr (.ref 17)), .inr (.inr (.ref 38)), .inl (a1), .inr (.inr (.ref 16))]) (σ' := σ) rfl ?_
      refine wk_callp tt_26 rfl rfl rfl rfl rfl tt_6 rfl (by decide) (at_l0 z σ 17 200 (a1) rfl (by decide) ra1) ?_
      show wx z 3 26 44 [(3, .inl ((sx_at σ 3 200 (a1)))), (0, .inr (.inr (.ref 38))), (1, .inl (a1)), (2, .inl (a2))] [.inr (.inl ((sx_atl σ 17 200 (a1)))), .inr (.inr (.ref 38)), .inl (a1), .inr (.inr (.ref 16))] σ (fun v σ' => v = none ∧ sg_F [16, 29, 30, 32, 33, 34, 39, 40, 7028, 10038, 11038, 13038, 14038] σ σ' ∧ Q σ')
      refine wk_b tt_26 7 (pc' := 59) (ls' := [(3, .inl ((sx_at σ 3 200 (a1)))), (0, .inr (.inr (.ref 38))), (1, .inl (a1)), (2, .inl (a2))]) (st' := [.inl (a1), .inr (.inr (.ref 7)), .inr (.inr (.ref 6)), .inr (.inl ((sx_atl σ 17 200 (a1)))), .inr (.inr (.ref 38)), .inl (a1), .inr (.inr (.ref 16))]) (σ' := σ) rfl ?_
      refine wk_callp tt_26 rfl rfl rfl rfl rfl tt_5 rfl (by decide) (at_i0 z σ 7 200 (a1) rfl (by decide) ra1) ?_
      show wx z 3 26 62 [(3, .inl ((sx_at σ 3 200 (a1)))), (0, .inr (.inr (.ref 38))), (1, .inl (a1)), (2, .inl (a2))] [.inl ((sx_at σ 7 200 (a1))), .inr (.inr (.ref 6)), .inr (.inl ((sx_atl σ 17 200 (a1)))), .inr (.inr (.ref 38)), .inl (a1), .inr (.inr (.ref 16))] σ (fun v σ' => v = none ∧ sg_F [16, 29, 30, 32, 33, 34, 39, 40, 7028, 10038, 11038, 13038, 14038] σ σ' ∧ Q σ')
      refine wk_callp tt_26 rfl rfl rfl rfl rfl tt_5 rfl (by decide) (at_i0 z σ 6 200 ((sx_at σ 7 200 (a1))) rfl (by decide) (sx_R ..)) ?_
      show wx z 3 26 65 [(3, .inl ((sx_at σ 3 200 (a1)))), (0, .inr (.inr (.ref 38))), (1, .inl (a1)), (2, .inl (a2))] [.inl ((sx_at σ 6 200 ((sx_at σ 7 200 (a1))))), .inr (.inl ((sx_atl σ 17 200 (a1)))), .inr (.inr (.ref 38)), .inl (a1), .inr (.inr (.ref 16))] σ (fun v σ' => v = none ∧ sg_F [16, 29, 30, 32, 33, 34, 39, 40, 7028, 10038, 11038, 13038, 14038] σ σ' ∧ Q σ')
      refine wk_call tt_26 rfl rfl rfl rfl rfl tt_27 rfl (by decide) (w_kBind z σ ((sx_atl σ 17 200 (a1))) ((sx_at σ 6 200 ((sx_at σ 7 200 (a1))))) _ (sx_Rl ..) (sx_R ..) w) (fun u130 σ126 hq128 => ?_)
      obtain ⟨q125, rfl, r129, hF127, w⟩ := hq128
      have w := w r129 hF127
      refine wk_callp tt_26 rfl rfl rfl rfl rfl tt_21 rfl (by decide) (pt_i0 z σ126 16 200 (a1) (q125) rfl (by decide) ra1) ?_
      show wx z 3 26 71 [(3, .inl ((sx_at σ 3 200 (a1)))), (0, .inr (.inr (.ref 38))), (1, .inl (a1)), (2, .inl (a2))] [] (sx_put σ126 16 200 (a1) (q125)) (fun v σ' => v = none ∧ sg_F [16, 29, 30, 32, 33, 34, 39, 40, 7028, 10038, 11038, 13038, 14038] σ σ' ∧ Q σ')
      generalize hs132 : (sx_put σ126 16 200 (a1) (q125)) = σ131
      have w := w σ131 hs132.symm
      have hF133 : sg_F [16] σ126 σ131 := by rw [← hs132]; exact sg_F_p (sg_F_r _ _) rfl _ _ _
      refine wk_b tt_26 4 (pc' := 77) (ls' := [(3, .inl ((sx_at σ 3 200 (a1)))), (0, .inr (.inr (.ref 38))), (1, .inl (a1)), (2, .inl (a2))]) (st' := [.inl (a1), .inl (4), .inr (.inr (.ref 28))]) (σ' := σ131) rfl ?_
      refine wk_call tt_26 rfl rfl rfl rfl rfl tt_193 rfl (by decide) (w_kpAdd z σ131 (4) (a1) _ (by decide) ra1 w) (fun u139 σ135 hq137 => ?_)
      obtain ⟨rfl, hF136, w⟩ := hq137
      have w := w hF136
      refine wk_b tt_26 1 (pc' := 177) (ls' := [(3, .inl ((sx_at σ 3 200 (a1)))), (0, .inr (.inr (.ref 38))), (1, .inl (a1)), (2, .inl (a2))]) (st' := []) (σ' := σ135) rfl ?_
      exact wk_rV tt_26 rfl rfl ⟨rfl, (sg_F_t (sg_F_t (sg_F_t (sg_F_r [16, 29, 30, 32, 33, 34, 39, 40, 7028, 10038, 11038, 13038, 14038] σ) (sg_F_m (L := [16, 29, 30, 32, 33, 34, 39, 40, 7028, 10038, 11038, 13038, 14038]) hF127 rfl)) (sg_F_m (L := [16, 29, 30, 32, 33, 34, 39, 40, 7028, 10038, 11038, 13038, 14038]) hF133 rfl)) (sg_F_m (L := [16, 29, 30, 32, 33, 34, 39, 40, 7028, 10038, 11038, 13038, 14038]) hF136 rfl)), w⟩
