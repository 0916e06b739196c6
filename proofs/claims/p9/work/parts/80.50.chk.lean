/-! What the methods of Checker ask for. -/
theorem sx_R (σ : sg_S) (a : Nat) (n i : Int) : sg_R (sx_at σ a n i) := by
  unfold sx_at
  split
  · exact sg_Rg _ _ _
  · decide
theorem sx_Rl (σ : sg_S) (a : Nat) (n i : Int) : sg_RL (sx_atl σ a n i) := by
  unfold sx_atl
  split
  · exact sg_Rgl _ _ _
  · decide
theorem sx_F {L : List Nat} {σ σ1 : sg_S} (h : sg_F L σ σ1) {a : Nat} {n i : Int} (ha : sg_ca L a = true) (hc : a < 1000 := by decide) : sx_at σ1 a n i = sx_at σ a n i := by unfold sx_at; rw [sg_F_ga h ha hc]
theorem sx_Fl {L : List Nat} {σ σ1 : sg_S} (h : sg_F L σ σ1) {a : Nat} {n i : Int} (ha : sg_ca L a = true) (hc : a < 1000 := by decide) : sx_atl σ1 a n i = sx_atl σ a n i := by unfold sx_atl; rw [sg_F_gal h ha hc]
-- NestedVectors$Plan.add
def V_kpAdd (σ : sg_S) (a1 : Int) (a2 : Int) (Q : sg_S → Prop) : Prop := ∀ σ1, σ1 = (sx_put σ 29 1013 ((sg_g σ 28 6)) (a1)) → ∀ σ4, σ4 = (sx_put σ1 30 1013 ((sg_g σ 28 6)) (a2)) → ∀ σ7, σ7 = (sg_w σ4 28 6 ((sg_n ((sg_g σ 28 6) + 1)))) → ((a1 = 8 → ∀ σ11, σ11 = (sx_put σ7 32 200 (a2) ((sg_n ((sg_g σ 28 6) + 1)))) → Q σ11) ∧ (¬ a1 = 8 → ((¬ a1 = 10 → ((a1 = 9 → ∀ σ16, σ16 = (sx_put σ7 33 200 (a2) ((sg_n ((sg_g σ 28 6) + 1)))) → Q σ16) ∧ (¬ a1 = 9 → ((¬ a1 = 12 → Q σ7) ∧ (a1 = 12 → ∀ σ20, σ20 = (sx_put σ7 33 200 (a2) ((sg_n ((sg_g σ 28 6) + 1)))) → Q σ20))))) ∧ (a1 = 10 → ∀ σ23, σ23 = (sx_put σ7 32 200 (a2) ((sg_n ((sg_g σ 28 6) + 1)))) → Q σ23))))
set_option maxHeartbeats 4000000 in
set_option maxRecDepth 8000 in
theorem w_kpAdd (z : Value) (σ : sg_S) (a1 : Int) (a2 : Int) (Q : sg_S → Prop) (ra1 : sg_R a1) (ra2 : sg_R a2) (w : V_kpAdd σ a1 a2 Q) : wx z 1 193 0 [(0, .inr (.inr (.ref 28))), (1, .inl (a1)), (2, .inl (a2))] [] σ (fun v σ' => v = none ∧ sg_F [29, 30, 32, 33, 7028] σ σ' ∧ Q σ') := by
  unfold V_kpAdd at w
  refine wk_b tt_193 5 (pc' := 9) (ls' := [(0, .inr (.inr (.ref 28))), (1, .inl (a1)), (2, .inl (a2))]) (st' := [.inl (a1), .inl ((sg_g σ 28 6)), .inr (.inr (.ref 29))]) (σ' := σ) rfl ?_
  refine wk_callp tt_193 rfl rfl rfl rfl rfl tt_21 rfl (by decide) (pt_i0 z σ 29 1013 ((sg_g σ 28 6)) (a1) rfl (by decide) (sg_Rg _ _ _)) ?_
  show wx z 1 193 12 [(0, .inr (.inr (.ref 28))), (1, .inl (a1)), (2, .inl (a2))] [] (sx_put σ 29 1013 ((sg_g σ 28 6)) (a1)) (fun v σ' => v = none ∧ sg_F [29, 30, 32, 33, 7028] σ σ' ∧ Q σ')
  generalize hs2 : (sx_put σ 29 1013 ((sg_g σ 28 6)) (a1)) = σ1
  have w := w σ1 hs2.symm
  have hF3 : sg_F [29] σ σ1 := by rw [← hs2]; exact sg_F_p (sg_F_r _ _) rfl _ _ _
  refine wk_b tt_193 5 (pc' := 21) (ls' := [(0, .inr (.inr (.ref 28))), (1, .inl (a1)), (2, .inl (a2))]) (st' := [.inl (a2), .inl ((sg_g σ1 28 6)), .inr (.inr (.ref 30))]) (σ' := σ1) rfl ?_
  rw [show (sg_g σ1 28 6) = (sg_g σ 28 6) from by rw [sg_F_ga hF3 rfl]]
  refine wk_callp tt_193 rfl rfl rfl rfl rfl tt_21 rfl (by decide) (pt_i0 z σ1 30 1013 ((sg_g σ 28 6)) (a2) rfl (by decide) (sg_Rg _ _ _)) ?_
  show wx z 1 193 24 [(0, .inr (.inr (.ref 28))), (1, .inl (a1)), (2, .inl (a2))] [] (sx_put σ1 30 1013 ((sg_g σ 28 6)) (a2)) (fun v σ' => v = none ∧ sg_F [29, 30, 32, 33, 7028] σ σ' ∧ Q σ')
  generalize hs5 : (sx_put σ1 30 1013 ((sg_g σ 28 6)) (a2)) = σ4
  have w := w σ4 hs5.symm
  have hF6 : sg_F [30] σ1 σ4 := by rw [← hs5]; exact sg_F_p (sg_F_r _ _) rfl _ _ _
  refine wk_b tt_193 5 (pc' := 31) (ls' := [(0, .inr (.inr (.ref 28))), (1, .inl (a1)), (2, .inl (a2))]) (st' := [.inl (((sg_g σ4 28 6) + 1)), .inr (.inr (.ref 28))]) (σ' := σ4) rfl ?_
  rw [show (sg_g σ4 28 6) = (sg_g σ 28 6) from by rw [sg_F_ga hF6 rfl, sg_F_ga hF3 rfl]]
  refine wk_n ?_
  refine wk_b tt_193 1 (pc' := 34) (ls' := [(0, .inr (.inr (.ref 28))), (1, .inl (a1)), (2, .inl (a2))]) (st' := []) (σ' := (sg_w σ4 28 6 ((sg_n ((sg_g σ 28 6) + 1))))) rfl ?_
  generalize hs8 : (sg_w σ4 28 6 ((sg_n ((sg_g σ 28 6) + 1)))) = σ7
  have w := w σ7 hs8.symm
  have hF9 : sg_F [7028] σ4 σ7 := by rw [← hs8]; exact sg_F_w (sg_F_r _ _) rfl _
  refine wk_b tt_193 2 (pc' := 37) (ls' := [(0, .inr (.inr (.ref 28))), (1, .inl (a1)), (2, .inl (a2))]) (st' := [.inl (8), .inl (a1)]) (σ' := σ7) rfl ?_
  refine wk_if2 tt_193 (tgt := 46) rfl rfl ra1 (by decide) (fun (h10 : a1 = 8) => ?_) (fun (h10 : ¬ a1 = 8) => ?_)
  ·
    have w := w.1 h10
    refine wk_b tt_193 5 (pc' := 55) (ls' := [(0, .inr (.inr (.ref 28))), (1, .inl (a1)), (2, .inl (a2))]) (st' := [.inl ((sg_g σ7 28 6)), .inl (a2), .inr (.inr (.ref 32))]) (σ' := σ7) rfl ?_
    rw [show (sg_g σ7 28 6) = (sg_n ((sg_g σ 28 6) + 1)) from by rw [(show sg_g σ7 28 6 = (sg_n ((sg_g σ 28 6) + 1)) from by rw [← hs8]; exact sg_gw_e _ _ _ _ (sg_Rn _))]]
    refine wk_callp tt_193 rfl rfl rfl rfl rfl tt_21 rfl (by decide) (pt_i0 z σ7 32 200 (a2) ((sg_n ((sg_g σ 28 6) + 1))) rfl (by decide) ra2) ?_
    show wx z 1 193 58 [(0, .inr (.inr (.ref 28))), (1, .inl (a1)), (2, .inl (a2))] [] (sx_put σ7 32 200 (a2) ((sg_n ((sg_g σ 28 6) + 1)))) (fun v σ' => v = none ∧ sg_F [29, 30, 32, 33, 7028] σ σ' ∧ Q σ')
    generalize hs12 : (sx_put σ7 32 200 (a2) ((sg_n ((sg_g σ 28 6) + 1)))) = σ11
    have w := w σ11 hs12.symm
    have hF13 : sg_F [32] σ7 σ11 := by rw [← hs12]; exact sg_F_p (sg_F_r _ _) rfl _ _ _
    refine wk_b tt_193 1 (pc' := 85) (ls' := [(0, .inr (.inr (.ref 28))), (1, .inl (a1)), (2, .inl (a2))]) (st' := []) (σ' := σ11) rfl ?_
    exact wk_rV tt_193 rfl rfl ⟨rfl, (sg_F_t (sg_F_t (sg_F_t (sg_F_t (sg_F_r [29, 30, 32, 33, 7028] σ) (sg_F_m (L := [29, 30, 32, 33, 7028]) hF3 rfl)) (sg_F_m (L := [29, 30, 32, 33, 7028]) hF6 rfl)) (sg_F_m (L := [29, 30, 32, 33, 7028]) hF9 rfl)) (sg_F_m (L := [29, 30, 32, 33, 7028]) hF13 rfl)), w⟩
  ·
    have w := w.2 h10
    refine wk_b tt_193 2 (pc' := 43) (ls' := [(0, .inr (.inr (.ref 28))), (1, .inl (a1)), (2, .inl (a2))]) (st' := [.inl (10), .inl (a1)]) (σ' := σ7) rfl ?_
    refine wk_if2 tt_193 (tgt := 61) rfl rfl ra1 (by decide) (fun (h14 : ¬ a1 = 10) => ?_) (fun (h14 : a1 = 10) => ?_)
    ·
      have w := w.1 h14
      refine wk_b tt_193 2 (pc' := 64) (ls' := [(0, .inr (.inr (.ref 28))), (1, .inl (a1)), (2, .inl (a2))]) (st' := [.inl (9), .inl (a1)]) (σ' := σ7) rfl ?_
      refine wk_if2 tt_193 (tgt := 73) rfl rfl ra1 (by decide) (fun (h15 : a1 = 9) => ?_) (fun (h15 : ¬ a1 = 9) => ?_)
      ·
        have w := w.1 h15
        refine wk_b tt_193 5 (pc' := 82) (ls' := [(0, .inr (.inr (.ref 28))), (1, .inl (a1)), (2, .inl (a2))]) (st' := [.inl ((sg_g σ7 28 6)), .inl (a2), .inr (.inr (.ref 33))]) (σ' := σ7) rfl ?_
        rw [show (sg_g σ7 28 6) = (sg_n ((sg_g σ 28 6) + 1)) from by rw [(show sg_g σ7 28 6 = (sg_n ((sg_g σ 28 6) + 1)) from by rw [← hs8]; exact sg_gw_e _ _ _ _ (sg_Rn _))]]
        refine wk_callp tt_193 rfl rfl rfl rfl rfl tt_21 rfl (by decide) (pt_i0 z σ7 33 200 (a2) ((sg_n ((sg_g σ 28 6) + 1))) rfl (by decide) ra2) ?_
        show wx z 1 193 85 [(0, .inr (.inr (.ref 28))), (1, .inl (a1)), (2, .inl (a2))] [] (sx_put σ7 33 200 (a2) ((sg_n ((sg_g σ 28 6) + 1)))) (fun v σ' => v = none ∧ sg_F [29, 30, 32, 33, 7028] σ σ' ∧ Q σ')
        generalize hs17 : (sx_put σ7 33 200 (a2) ((sg_n ((sg_g σ 28 6) + 1)))) = σ16
        have w := w σ16 hs17.symm
        have hF18 : sg_F [33] σ7 σ16 := by rw [← hs17]; exact sg_F_p (sg_F_r _ _) rfl _ _ _
        exact wk_rV tt_193 rfl rfl ⟨rfl, (sg_F_t (sg_F_t (sg_F_t (sg_F_t (sg_F_r [29, 30, 32, 33, 7028] σ) (sg_F_m (L := [29, 30, 32, 33, 7028]) hF3 rfl)) (sg_F_m (L := [29, 30, 32, 33, 7028]) hF6 rfl)) (sg_F_m (L := [29, 30, 32, 33, 7028]) hF9 rfl)) (sg_F_m (L := [29, 30, 32, 33, 7028]) hF18 rfl)), w⟩
      ·
        have w := w.2 h15
        refine wk_b tt_193 2 (pc' := 70) (ls' := [(0, .inr (.inr (.ref 28))), (1, .inl (a1)), (2, .inl (a2))]) (st' := [.inl (12), .inl (a1)]) (σ' := σ7) rfl ?_
        refine wk_if2 tt_193 (tgt := 85) rfl rfl ra1 (by decide) (fun (h19 : ¬ a1 = 12) => ?_) (fun (h19 : a1 = 12) => ?_)
        ·
          have w := w.1 h19
          exact wk_rV tt_193 rfl rfl ⟨rfl, (sg_F_t (sg_F_t (sg_F_t (sg_F_r [29, 30, 32, 33, 7028] σ) (sg_F_m (L := [29, 30, 32, 33, 7028]) hF3 rfl)) (sg_F_m (L := [29, 30, 32, 33, 7028]) hF6 rfl)) (sg_F_m (L := [29, 30, 32, 33, 7028]) hF9 rfl)), w⟩
        ·
          have w := w.2 h19
          refine wk_b tt_193 5 (pc' := 82) (ls' := [(0, .inr (.inr (.ref 28))), (1, .inl (a1)), (2, .inl (a2))]) (st' := [.inl ((sg_g σ7 28 6)), .inl (a2), .inr (.inr (.ref 33))]) (σ' := σ7) rfl ?_
          rw [show (sg_g σ7 28 6) = (sg_n ((sg_g σ 28 6) + 1)) from by rw [(show sg_g σ7 28 6 = (sg_n ((sg_g σ 28 6) + 1)) from by rw [← hs8]; exact sg_gw_e _ _ _ _ (sg_Rn _))]]
          refine wk_callp tt_193 rfl rfl rfl rfl rfl tt_21 rfl (by decide) (pt_i0 z σ7 33 200 (a2) ((sg_n ((sg_g σ 28 6) + 1))) rfl (by decide) ra2) ?_
          show wx z 1 193 85 [(0, .inr (.inr (.ref 28))), (1, .inl (a1)), (2, .inl (a2))] [] (sx_put σ7 33 200 (a2) ((sg_n ((sg_g σ 28 6) + 1)))) (fun v σ' => v = none ∧ sg_F [29, 30, 32, 33, 7028] σ σ' ∧ Q σ')
          generalize hs21 : (sx_put σ7 33 200 (a2) ((sg_n ((sg_g σ 28 6) + 1)))) = σ20
          have w := w σ20 hs21.symm
          have hF22 : sg_F [33] σ7 σ20 := by rw [← hs21]; exact sg_F_p (sg_F_r _ _) rfl _ _ _
          exact wk_rV tt_193 rfl rfl ⟨rfl, (sg_F_t (sg_F_t (sg_F_t (sg_F_t (sg_F_r [29, 30, 32, 33, 7028] σ) (sg_F_m (L := [29, 30, 32, 33, 7028]) hF3 rfl)) (sg_F_m (L := [29, 30, 32, 33, 7028]) hF6 rfl)) (sg_F_m (L := [29, 30, 32, 33, 7028]) hF9 rfl)) (sg_F_m (L := [29, 30, 32, 33, 7028]) hF22 rfl)), w⟩
    ·
      have w := w.2 h14
      refine wk_b tt_193 5 (pc' := 55) (ls' := [(0, .inr (.inr (.ref 28))), (1, .inl (a1)), (2, .inl (a2))]) (st' := [.inl ((sg_g σ7 28 6)), .inl (a2), .inr (.inr (.ref 32))]) (σ' := σ7) rfl ?_
      rw [show (sg_g σ7 28 6) = (sg_n ((sg_g σ 28 6) + 1)) from by rw [(show sg_g σ7 28 6 = (sg_n ((sg_g σ 28 6) + 1)) from by rw [← hs8]; exact sg_gw_e _ _ _ _ (sg_Rn _))]]
      refine wk_callp tt_193 rfl rfl rfl rfl rfl tt_21 rfl (by decide) (pt_i0 z σ7 32 200 (a2) ((sg_n ((sg_g σ 28 6) + 1))) rfl (by decide) ra2) ?_
      show wx z 1 193 58 [(0, .inr (.inr (.ref 28))), (1, .inl (a1)), (2, .inl (a2))] [] (sx_put σ7 32 200 (a2) ((sg_n ((sg_g σ 28 6) + 1)))) (fun v σ' => v = none ∧ sg_F [29, 30, 32, 33, 7028] σ σ' ∧ Q σ')
      generalize hs24 : (sx_put σ7 32 200 (a2) ((sg_n ((sg_g σ 28 6) + 1)))) = σ23
      have w := w σ23 hs24.symm
      have hF25 : sg_F [32] σ7 σ23 := by rw [← hs24]; exact sg_F_p (sg_F_r _ _) rfl _ _ _
      refine wk_b tt_193 1 (pc' := 85) (ls' := [(0, .inr (.inr (.ref 28))), (1, .inl (a1)), (2, .inl (a2))]) (st' := []) (σ' := σ23) rfl ?_
      exact wk_rV tt_193 rfl rfl ⟨rfl, (sg_F_t (sg_F_t (sg_F_t (sg_F_t (sg_F_r [29, 30, 32, 33, 7028] σ) (sg_F_m (L := [29, 30, 32, 33, 7028]) hF3 rfl)) (sg_F_m (L := [29, 30, 32, 33, 7028]) hF6 rfl)) (sg_F_m (L := [29, 30, 32, 33, 7028]) hF9 rfl)) (sg_F_m (L := [29, 30, 32, 33, 7028]) hF25 rfl)), w⟩
-- NestedVectors$Checker.blame
def V_kBlame (σ : sg_S) (a1 : Int) (a2 : Int) (Q : sg_S → Prop) : Prop := ((¬ (sg_g σ 38 13) = 0 → Q σ) ∧ ((sg_g σ 38 13) = 0 → ∀ σ2, σ2 = (sg_w σ 38 13 (a1)) → ∀ σ5, σ5 = (sg_w σ2 38 12 (a2)) → Q σ5))
set_option maxHeartbeats 4000000 in
set_option maxRecDepth 8000 in
theorem w_kBlame (z : Value) (σ : sg_S) (a1 : Int) (a2 : Int) (Q : sg_S → Prop) (ra1 : sg_R a1) (ra2 : sg_R a2) (w : V_kBlame σ a1 a2 Q) : wx z 0 28 0 [(0, .inr (.inr (.ref 38))), (1, .inl (a1)), (2, .inl (a2))] [] σ (fun v σ' => v = none ∧ sg_F [13038, 14038] σ σ' ∧ Q σ') := by
  unfold V_kBlame at w
  refine wk_b tt_28 2 (pc' := 4) (ls' := [(0, .inr (.inr (.ref 38))), (1, .inl (a1)), (2, .inl (a2))]) (st' := [.inl ((sg_g σ 38 13))]) (σ' := σ) rfl ?_
  refine wk_if tt_28 (tgt := 17) rfl rfl (sg_Rg _ _ _) (fun (h1 : ¬ (sg_g σ 38 13) = 0) => ?_) (fun (h1 : (sg_g σ 38 13) = 0) => ?_)
  ·
    have w := w.1 h1
    exact wk_rV tt_28 rfl rfl ⟨rfl, (sg_F_r [13038, 14038] σ), w⟩
  ·
    have w := w.2 h1
    refine wk_b tt_28 3 (pc' := 12) (ls' := [(0, .inr (.inr (.ref 38))), (1, .inl (a1)), (2, .inl (a2))]) (st' := []) (σ' := (sg_w σ 38 13 (a1))) rfl ?_
    generalize hs3 : (sg_w σ 38 13 (a1)) = σ2
    have w := w σ2 hs3.symm
    have hF4 : sg_F [14038] σ σ2 := by rw [← hs3]; exact sg_F_w (sg_F_r _ _) rfl _
    refine wk_b tt_28 3 (pc' := 17) (ls' := [(0, .inr (.inr (.ref 38))), (1, .inl (a1)), (2, .inl (a2))]) (st' := []) (σ' := (sg_w σ2 38 12 (a2))) rfl ?_
    generalize hs6 : (sg_w σ2 38 12 (a2)) = σ5
    have w := w σ5 hs6.symm
    have hF7 : sg_F [13038] σ2 σ5 := by rw [← hs6]; exact sg_F_w (sg_F_r _ _) rfl _
    exact wk_rV tt_28 rfl rfl ⟨rfl, (sg_F_t (sg_F_t (sg_F_r [13038, 14038] σ) (sg_F_m (L := [13038, 14038]) hF4 rfl)) (sg_F_m (L := [13038, 14038]) hF7 rfl)), w⟩
-- NestedVectors$Checker.bind
def V_kBind (σ : sg_S) (a1 : Int) (a2 : Int) (Q : Int → sg_S → Prop) : Prop := sg_R ((sg_g σ 38 10) + 1) ∧ ∀ σ2, σ2 = (sg_w σ 38 10 (((sg_g σ 38 10) + 1))) → ∀ σ5, σ5 = (sx_putl σ2 39 272 ((sg_g σ 38 9)) (a1)) → ∀ σ8, σ8 = (sx_put σ5 40 272 ((sg_g σ 38 9)) ((sg_g σ 38 10))) → sg_R ((sg_g σ 38 9) + 1) ∧ ∀ σ12, σ12 = (sg_w σ8 38 9 (((sg_g σ 38 9) + 1))) → ∀ σ15, σ15 = (sx_put σ12 34 272 ((sg_g σ 38 10)) (a2)) → Q ((sg_g σ 38 10)) σ15
set_option maxHeartbeats 4000000 in
set_option maxRecDepth 8000 in
theorem w_kBind (z : Value) (σ : sg_S) (a1 : Int) (a2 : Int) (Q : Int → sg_S → Prop) (ra1 : sg_RL a1) (ra2 : sg_R a2) (w : V_kBind σ a1 a2 Q) : wx z 1 27 0 [(0, .inr (.inr (.ref 38))), (1, .inr (.inl (a1))), (3, .inl (a2))] [] σ (fun v σ' => ∃ q, v = some (.inl q) ∧ sg_R q ∧ sg_F [34, 39, 40, 10038, 11038] σ σ' ∧ Q q σ') := by
  unfold V_kBind at w
  obtain ⟨c1, w⟩ := w
  refine wk_b tt_27 9 (pc' := 16) (ls' := [(4, .inl ((sg_g σ 38 10))), (0, .inr (.inr (.ref 38))), (1, .inr (.inl (a1))), (3, .inl (a2))]) (st' := []) (σ' := (sg_w σ 38 10 (((sg_g σ 38 10) + 1)))) rfl ?_
  generalize hs3 : (sg_w σ 38 10 (((sg_g σ 38 10) + 1))) = σ2
  have w := w σ2 hs3.symm
  have hF4 : sg_F [11038] σ σ2 := by rw [← hs3]; exact sg_F_w (sg_F_r _ _) rfl _
  refine wk_b tt_27 5 (pc' := 25) (ls' := [(4, .inl ((sg_g σ 38 10))), (0, .inr (.inr (.ref 38))), (1, .inr (.inl (a1))), (3, .inl (a2))]) (st' := [.inr (.inl (a1)), .inl ((sg_g σ2 38 9)), .inr (.inr (.ref 39))]) (σ' := σ2) rfl ?_
  rw [show (sg_g σ2 38 9) = (sg_g σ 38 9) from by rw [sg_F_g hF4 rfl]]
  refine wk_callp tt_27 rfl rfl rfl rfl rfl tt_22 rfl (by decide) (pt_l0 z σ2 39 272 ((sg_g σ 38 9)) (a1) rfl (by decide) (sg_Rg _ _ _)) ?_
  show wx z 1 27 28 [(4, .inl ((sg_g σ 38 10))), (0, .inr (.inr (.ref 38))), (1, .inr (.inl (a1))), (3, .inl (a2))] [] (sx_putl σ2 39 272 ((sg_g σ 38 9)) (a1)) (fun v σ' => ∃ q, v = some (.inl q) ∧ sg_R q ∧ sg_F [34, 39, 40, 10038, 11038] σ σ' ∧ Q q σ')
  generalize hs6 : (sx_putl σ2 39 272 ((sg_g σ 38 9)) (a1)) = σ5
  have w := w σ5 hs6.symm
  have hF7 : sg_F [39] σ2 σ5 := by rw [← hs6]; exact sg_F_pl (sg_F_r _ _) rfl _ _ _
  refine wk_b tt_27 5 (pc' := 38) (ls' := [(4, .inl ((sg_g σ 38 10))), (0, .inr (.inr (.ref 38))), (1, .inr (.inl (a1))), (3, .inl (a2))]) (st' := [.inl ((sg_g σ 38 10)), .inl ((sg_g σ5 38 9)), .inr (.inr (.ref 40))]) (σ' := σ5) rfl ?_
  rw [show (sg_g σ5 38 9) = (sg_g σ 38 9) from by rw [sg_F_ga hF7 rfl, sg_F_g hF4 rfl]]
  refine wk_callp tt_27 rfl rfl rfl rfl rfl tt_21 rfl (by decide) (pt_i0 z σ5 40 272 ((sg_g σ 38 9)) ((sg_g σ 38 10)) rfl (by decide) (sg_Rg _ _ _)) ?_
  show wx z 1 27 41 [(4, .inl ((sg_g σ 38 10))), (0, .inr (.inr (.ref 38))), (1, .inr (.inl (a1))), (3, .inl (a2))] [] (sx_put σ5 40 272 ((sg_g σ 38 9)) ((sg_g σ 38 10))) (fun v σ' => ∃ q, v = some (.inl q) ∧ sg_R q ∧ sg_F [34, 39, 40, 10038, 11038] σ σ' ∧ Q q σ')
  generalize hs9 : (sx_put σ5 40 272 ((sg_g σ 38 9)) ((sg_g σ 38 10))) = σ8
  have w := w σ8 hs9.symm
  have hF10 : sg_F [40] σ5 σ8 := by rw [← hs9]; exact sg_F_p (sg_F_r _ _) rfl _ _ _
  obtain ⟨c11, w⟩ := w
  refine wk_b tt_27 6 (pc' := 51) (ls' := [(4, .inl ((sg_g σ 38 10))), (0, .inr (.inr (.ref 38))), (1, .inr (.inl (a1))), (3, .inl (a2))]) (st' := []) (σ' := (sg_w σ8 38 9 (((sg_g σ8 38 9) + 1)))) rfl ?_
  rw [show (sg_g σ8 38 9) = (sg_g σ 38 9) from by rw [sg_F_ga hF10 rfl, sg_F_ga hF7 rfl, sg_F_g hF4 rfl]]
  generalize hs13 : (sg_w σ8 38 9 (((sg_g σ 38 9) + 1))) = σ12
  have w := w σ12 hs13.symm
  have hF14 : sg_F [10038] σ8 σ12 := by rw [← hs13]; exact sg_F_w (sg_F_r _ _) rfl _
  refine wk_b tt_27 5 (pc' := 61) (ls' := [(4, .inl ((sg_g σ 38 10))), (0, .inr (.inr (.ref 38))), (1, .inr (.inl (a1))), (3, .inl (a2))]) (st' := [.inl (a2), .inl ((sg_g σ 38 10)), .inr (.inr (.ref 34))]) (σ' := σ12) rfl ?_
  refine wk_callp tt_27 rfl rfl rfl rfl rfl tt_21 rfl (by decide) (pt_i0 z σ12 34 272 ((sg_g σ 38 10)) (a2) rfl (by decide) (sg_Rg _ _ _)) ?_
  show wx z 1 27 64 [(4, .inl ((sg_g σ 38 10))), (0, .inr (.inr (.ref 38))), (1, .inr (.inl (a1))), (3, .inl (a2))] [] (sx_put σ12 34 272 ((sg_g σ 38 10)) (a2)) (fun v σ' => ∃ q, v = some (.inl q) ∧ sg_R q ∧ sg_F [34, 39, 40, 10038, 11038] σ σ' ∧ Q q σ')
  generalize hs16 : (sx_put σ12 34 272 ((sg_g σ 38 10)) (a2)) = σ15
  have w := w σ15 hs16.symm
  have hF17 : sg_F [34] σ12 σ15 := by rw [← hs16]; exact sg_F_p (sg_F_r _ _) rfl _ _ _
  refine wk_b tt_27 1 (pc' := 66) (ls' := [(4, .inl ((sg_g σ 38 10))), (0, .inr (.inr (.ref 38))), (1, .inr (.inl (a1))), (3, .inl (a2))]) (st' := [.inl ((sg_g σ 38 10))]) (σ' := σ15) rfl ?_
  exact wk_rI tt_27 rfl rfl ⟨_, rfl, (sg_Rg _ _ _), (sg_F_t (sg_F_t (sg_F_t (sg_F_t (sg_F_t (sg_F_r [34, 39, 40, 10038, 11038] σ) (sg_F_m (L := [34, 39, 40, 10038, 11038]) hF4 rfl)) (sg_F_m (L := [34, 39, 40, 10038, 11038]) hF7 rfl)) (sg_F_m (L := [34, 39, 40, 10038, 11038]) hF10 rfl)) (sg_F_m (L := [34, 39, 40, 10038, 11038]) hF14 rfl)) (sg_F_m (L := [34, 39, 40, 10038, 11038]) hF17 rfl)), w⟩
-- NestedVectors$Checker.open
def V_kOpen (σ : sg_S) (a1 : Int) (Q : sg_S → Prop) : Prop := ∀ σ1, σ1 = (sx_put σ 16 200 (a1) ((sg_g σ 38 10))) → (∃ (I9 : Nat → Int → Int → Int → sg_S → Prop) (X11 : Int → sg_S → Prop), (∃ n, I9 n (1) ((sx_at σ 7 200 (a1))) (0) σ1) ∧ (∀ (n21 : Nat) (v4 : Int) (v5 : Int) (v6 : Int) (σ7 : sg_S), sg_R v4 → sg_R v5 → sg_R v6 → sg_F [34, 39, 40, 10038, 11038, 13038, 14038] σ1 σ7 → I9 n21 v4 v5 v6 σ7 → (((sx_at σ 13 200 (a1)) ≤ v6 → X11 (v4) σ7) ∧ (v6 < (sx_at σ 13 200 (a1)) → ((4 ≤ v6 → X11 (v4) σ7) ∧ (v6 < 4 → (∃ (I46 : Nat → Int → sg_S → Prop) (X48 : sg_S → Prop), (∃ n, I46 n ((sg_g σ 38 9)) σ7) ∧ (∀ (n56 : Nat) (v43 : Int) (σ44 : sg_S), sg_R v43 → sg_F [13038, 14038] σ7 σ44 → I46 n56 v43 σ44 → (((sg_g σ7 38 9) ≤ v43 → X48 σ44) ∧ (v43 < (sg_g σ7 38 9) → ((272 ≤ v43 → X48 σ44) ∧ (v43 < 272 → ((¬ (sx_atl σ7 39 272 (v43)) = (sx_atl σ 18 200 (v5)) → sg_R (v43 + 1) ∧ (∃ m, m < n56 ∧ I46 m ((v43 + 1)) σ44)) ∧ ((sx_atl σ7 39 272 (v43)) = (sx_atl σ 18 200 (v5)) → V_kBlame σ44 (2) ((sx_at σ 15 200 (v5))) (fun σ79 => sg_F [13038, 14038] σ44 σ79 → sg_R (v43 + 1) ∧ (∃ m, m < n56 ∧ I46 m ((v43 + 1)) σ79))))))))) ∧ (∀ (σ44 : sg_S), sg_F [13038, 14038] σ7 σ44 → X48 σ44 → ((v4 = 0 → True) ∧ (¬ v4 = 0 → (((sx_at σ 6 200 (v5)) ≤ 0 → True) ∧ (0 < (sx_at σ 6 200 (v5)) → True)))) ∧ ∀ v60 : Int, v60 = (if v4 = 0 then (0 : Int) else (if (sx_at σ 6 200 (v5)) ≤ 0 then (0 : Int) else (1 : Int))) → sg_R v60 → sg_R ((sx_at σ 6 200 (v5)) - 1) ∧ V_kBind σ44 ((sx_atl σ 18 200 (v5))) (((sx_at σ 6 200 (v5)) - 1)) (fun q64 σ65 => sg_R q64 → sg_F [34, 39, 40, 10038, 11038] σ44 σ65 → sg_R (v6 + 1) ∧ (∃ m, m < n21 ∧ I9 m (v60) ((sx_at σ 9 200 (v5))) ((v6 + 1)) σ65))))))))) ∧ (∀ (v4 : Int) (σ7 : sg_S), sg_R v4 → sg_F [34, 39, 40, 10038, 11038, 13038, 14038] σ1 σ7 → X11 v4 σ7 → (∃ P25 : sg_S → Prop, ((¬ v4 = 0 → P25 σ7) ∧ (v4 = 0 → V_kBlame σ7 (3) ((sx_at σ 4 200 (a1))) (fun σ36 => sg_F [13038, 14038] σ7 σ36 → P25 σ36))) ∧ (∀ (σ26 : sg_S), sg_F [13038, 14038] σ7 σ26 → P25 σ26 → V_kpAdd σ26 (10) (a1) (fun σ30 => sg_F [29, 30, 32, 33, 7028] σ26 σ30 → Q σ30)))))
set_option maxHeartbeats 4000000 in
set_option maxRecDepth 8000 in
theorem w_kOpen (z : Value) (σ : sg_S) (a1 : Int) (Q : sg_S → Prop) (ra1 : sg_R a1) (w : V_kOpen σ a1 Q) : wx z 2 41 0 [(0, .inr (.inr (.ref 38))), (1, .inl (a1))] [] σ (fun v σ' => v = none ∧ sg_F [16, 29, 30, 32, 33, 34, 39, 40, 7028, 10038, 11038, 13038, 14038] σ σ' ∧ Q σ') := by
  unfold V_kOpen at w
  refine wk_b tt_41 6 (pc' := 12) (ls' := [(0, .inr (.inr (.ref 38))), (1, .inl (a1))]) (st' := [.inl ((sg_g σ 38 10)), .inl (a1), .inr (.inr (.ref 16))]) (σ' := σ) rfl ?_
  refine wk_callp tt_41 rfl rfl rfl rfl rfl tt_21 rfl (by decide) (pt_i0 z σ 16 200 (a1) ((sg_g σ 38 10)) rfl (by decide) ra1) ?_
  show wx z 2 41 15 [(0, .inr (.inr (.ref 38))), (1, .inl (a1))] [] (sx_put σ 16 200 (a1) ((sg_g σ 38 10))) (fun v σ' => v = none ∧ sg_F [16, 29, 30, 32, 33, 34, 39, 40, 7028, 10038, 11038, 13038, 14038] σ σ' ∧ Q σ')
  generalize hs2 : (sx_put σ 16 200 (a1) ((sg_g σ 38 10))) = σ1
  have w := w σ1 hs2.symm
  have hF3 : sg_F [16] σ σ1 := by rw [← hs2]; exact sg_F_p (sg_F_r _ _) rfl _ _ _
  refine wk_b tt_41 9 (pc' := 30) (ls' := [(3, .inl (1)), (2, .inl ((sg_g σ1 38 9))), (0, .inr (.inr (.ref 38))), (1, .inl (a1))]) (st' := [.inl (a1), .inr (.inr (.ref 7))]) (σ' := σ1) rfl ?_
  rw [show (sg_g σ1 38 9) = (sg_g σ 38 9) from by rw [sg_F_ga hF3 rfl]]
  refine wk_callp tt_41 rfl rfl rfl rfl rfl tt_5 rfl (by decide) (at_i0 z σ1 7 200 (a1) rfl (by decide) ra1) ?_
  show wx z 2 41 33 [(3, .inl (1)), (2, .inl ((sg_g σ 38 9))), (0, .inr (.inr (.ref 38))), (1, .inl (a1))] [.inl ((sx_at σ1 7 200 (a1)))] σ1 (fun v σ' => v = none ∧ sg_F [16, 29, 30, 32, 33, 34, 39, 40, 7028, 10038, 11038, 13038, 14038] σ σ' ∧ Q σ')
  rw [sx_F (a := 7) (n := 200) (i := (a1)) hF3 rfl]
  refine wk_b tt_41 3 (pc' := 38) (ls' := [(5, .inl (0)), (4, .inl ((sx_at σ 7 200 (a1)))), (3, .inl (1)), (2, .inl ((sg_g σ 38 9))), (0, .inr (.inr (.ref 38))), (1, .inl (a1))]) (st' := []) (σ' := σ1) rfl ?_
  obtain ⟨I9, X11, ⟨μ10, w18⟩, w19, w20⟩ := w
  have ex22 : ∀ (v4 : Int) (σ7 : sg_S), sg_R v4 → sg_F [34, 39, 40, 10038, 11038, 13038, 14038] σ1 σ7 → X11 v4 σ7 → wx z 2 41 198 [(0, .inr (.inr (.ref 38))), (1, .inl (a1)), (3, .inl (v4))] [] σ7 (fun v σ' => v = none ∧ sg_F [16, 29, 30, 32, 33, 34, 39, 40, 7028, 10038, 11038, 13038, 14038] σ σ' ∧ Q σ') := by
    intro v4 σ7 r12 hF8 w
    have w := w20 v4 σ7 r12 hF8 w
    refine wk_b tt_41 1 (pc' := 199) (ls' := [(0, .inr (.inr (.ref 38))), (1, .inl (a1)), (3, .inl (v4))]) (st' := [.inl (v4)]) (σ' := σ7) rfl ?_
    obtain ⟨P25, w, w28⟩ := w
    have jn24 : ∀ (σ26 : sg_S), sg_F [13038, 14038] σ7 σ26 → P25 σ26 → wx z 2 41 218 [(0, .inr (.inr (.ref 38))), (1, .inl (a1))] [] σ26 (fun v σ' => v = none ∧ sg_F [16, 29, 30, 32, 33, 34, 39, 40, 7028, 10038, 11038, 13038, 14038] σ σ' ∧ Q σ') := by
      intro σ26 hF27 w
      have w := w28 σ26 hF27 w
      refine wk_b tt_41 4 (pc' := 225) (ls' := [(0, .inr (.inr (.ref 38))), (1, .inl (a1))]) (st' := [.inl (a1), .inl (10), .inr (.inr (.ref 28))]) (σ' := σ26) rfl ?_
      refine wk_call tt_41 rfl rfl rfl rfl rfl tt_193 rfl (by decide) (w_kpAdd z σ26 (10) (a1) _ (by decide) ra1 w) (fun u34 σ30 hq32 => ?_)
      obtain ⟨rfl, hF31, w⟩ := hq32
      have w := w hF31
      exact wk_rV tt_41 rfl rfl ⟨rfl, (sg_F_t (sg_F_t (sg_F_t (sg_F_t (sg_F_r [16, 29, 30, 32, 33, 34, 39, 40, 7028, 10038, 11038, 13038, 14038] σ) (sg_F_m (L := [16, 29, 30, 32, 33, 34, 39, 40, 7028, 10038, 11038, 13038, 14038]) hF3 rfl)) (sg_F_m (L := [16, 29, 30, 32, 33, 34, 39, 40, 7028, 10038, 11038, 13038, 14038]) hF8 rfl)) (sg_F_m (L := [16, 29, 30, 32, 33, 34, 39, 40, 7028, 10038, 11038, 13038, 14038]) hF27 rfl)) (sg_F_m (L := [16, 29, 30, 32, 33, 34, 39, 40, 7028, 10038, 11038, 13038, 14038]) hF31 rfl)), w⟩
    refine wk_if tt_41 (tgt := 218) rfl rfl r12 (fun (h23 : ¬ v4 = 0) => ?_) (fun (h23 : v4 = 0) => ?_)
    ·
      have w := w.1 h23
      exact wk_ls [(0, .inr (.inr (.ref 38))), (1, .inl (a1))] rfl ⟨rfl, rfl, trivial⟩ (jn24 σ7 (sg_F_r [13038, 14038] σ7) w)
    ·
      have w := w.2 h23
      refine wk_b tt_41 6 (pc' := 212) (ls' := [(0, .inr (.inr (.ref 38))), (1, .inl (a1)), (3, .inl (v4))]) (st' := [.inl (a1), .inr (.inr (.ref 4)), .inl (3), .inr (.inr (.ref 38))]) (σ' := σ7) rfl ?_
      refine wk_callp tt_41 rfl rfl rfl rfl rfl tt_5 rfl (by decide) (at_i0 z σ7 4 200 (a1) rfl (by decide) ra1) ?_
      show wx z 2 41 215 [(0, .inr (.inr (.ref 38))), (1, .inl (a1)), (3, .inl (v4))] [.inl ((sx_at σ7 4 200 (a1))), .inl (3), .inr (.inr (.ref 38))] σ7 (fun v σ' => v = none ∧ sg_F [16, 29, 30, 32, 33, 34, 39, 40, 7028, 10038, 11038, 13038, 14038] σ σ' ∧ Q σ')
      rw [sx_F (a := 4) (n := 200) (i := (a1)) hF8 rfl, sx_F (a := 4) (n := 200) (i := (a1)) hF3 rfl]
      refine wk_call tt_41 rfl rfl rfl rfl rfl tt_28 rfl (by decide) (w_kBlame z σ7 (3) ((sx_at σ 4 200 (a1))) _ (by decide) (sx_R ..) w) (fun u40 σ36 hq38 => ?_)
      obtain ⟨rfl, hF37, w⟩ := hq38
      have w := w hF37
      exact wk_ls [(0, .inr (.inr (.ref 38))), (1, .inl (a1))] rfl ⟨rfl, rfl, trivial⟩ (jn24 σ36 (sg_F_t (sg_F_r [13038, 14038] σ7) (sg_F_m (L := [13038, 14038]) hF37 rfl)) w)
  have lp17 : ∀ (n21 : Nat) (v4 : Int) (v5 : Int) (v6 : Int) (σ7 : sg_S), sg_R v4 → sg_R v5 → sg_R v6 → sg_F [34, 39, 40, 10038, 11038, 13038, 14038] σ1 σ7 → I9 n21 v4 v5 v6 σ7 → wx z 2 41 38 [(0, .inr (.inr (.ref 38))), (1, .inl (a1)), (2, .inl ((sg_g σ 38 9))), (3, .inl (v4)), (4, .inl (v5)), (5, .inl (v6))] [] σ7 (fun v σ' => v = none ∧ sg_F [16, 29, 30, 32, 33, 34, 39, 40, 7028, 10038, 11038, 13038, 14038] σ σ' ∧ Q σ') := by
    intro n21
    induction n21 using Nat.strongRecOn with
    | _ n21 ih15 =>
      intro v4 v5 v6 σ7 r12 r13 r14 hF8 w
      have w := w19 n21 v4 v5 v6 σ7 r12 r13 r14 hF8 w
      refine wk_b tt_41 5 (pc' := 48) (ls' := [(0, .inr (.inr (.ref 38))), (1, .inl (a1)), (2, .inl ((sg_g σ 38 9))), (3, .inl (v4)), (4, .inl (v5)), (5, .inl (v6))]) (st' := [.inl (a1), .inr (.inr (.ref 13)), .inl (v6)]) (σ' := σ7) rfl ?_
      refine wk_callp tt_41 rfl rfl rfl rfl rfl tt_5 rfl (by decide) (at_i0 z σ7 13 200 (a1) rfl (by decide) ra1) ?_
      show wx z 2 41 51 [(0, .inr (.inr (.ref 38))), (1, .inl (a1)), (2, .inl ((sg_g σ 38 9))), (3, .inl (v4)), (4, .inl (v5)), (5, .inl (v6))] [.inl ((sx_at σ7 13 200 (a1))), .inl (v6)] σ7 (fun v σ' => v = none ∧ sg_F [16, 29, 30, 32, 33, 34, 39, 40, 7028, 10038, 11038, 13038, 14038] σ σ' ∧ Q σ')
      rw [sx_F (a := 13) (n := 200) (i := (a1)) hF8 rfl, sx_F (a := 13) (n := 200) (i := (a1)) hF3 rfl]
      refine wk_if2 tt_41 (tgt := 198) rfl rfl r14 (sx_R ..) (fun (h41 : (sx_at σ 13 200 (a1)) ≤ v6) => ?_) (fun (h41 : v6 < (sx_at σ 13 200 (a1))) => ?_)
      ·
        have w := w.1 h41
        exact wk_ls [(0, .inr (.inr (.ref 38))), (1, .inl (a1)), (3, .inl (v4))] rfl ⟨rfl, rfl, rfl, trivial⟩ (ex22 (v4) σ7 r12 (sg_F_t (sg_F_r [34, 39, 40, 10038, 11038, 13038, 14038] σ1) (sg_F_m (L := [34, 39, 40, 10038, 11038, 13038, 14038]) hF8 rfl)) w)
      ·
        have w := w.2 h41
        refine wk_b tt_41 2 (pc' := 57) (ls' := [(0, .inr (.inr (.ref 38))), (1, .inl (a1)), (2, .inl ((sg_g σ 38 9))), (3, .inl (v4)), (4, .inl (v5)), (5, .inl (v6))]) (st' := [.inl (4), .inl (v6)]) (σ' := σ7) rfl ?_
        refine wk_if2 tt_41 (tgt := 198) rfl rfl r14 (by decide) (fun (h42 : 4 ≤ v6) => ?_) (fun (h42 : v6 < 4) => ?_)
        ·
          have w := w.1 h42
          exact wk_ls [(0, .inr (.inr (.ref 38))), (1, .inl (a1)), (3, .inl (v4))] rfl ⟨rfl, rfl, rfl, trivial⟩ (ex22 (v4) σ7 r12 (sg_F_t (sg_F_r [34, 39, 40, 10038, 11038, 13038, 14038] σ1) (sg_F_m (L := [34, 39, 40, 10038, 11038, 13038, 14038]) hF8 rfl)) w)
        ·
          have w := w.2 h42
          refine wk_b tt_41 4 (pc' := 69) (ls' := [(0, .inr (.inr (.ref 38))), (1, .inl (a1)), (2, .inl ((sg_g σ 38 9))), (3, .inl (v4)), (4, .inl (v5)), (5, .inl (v6))]) (st' := [.inl (v5), .inr (.inr (.ref 18))]) (σ' := σ7) rfl ?_
          refine wk_callp tt_41 rfl rfl rfl rfl rfl tt_6 rfl (by decide) (at_l0 z σ7 18 200 (v5) rfl (by decide) r13) ?_
          show wx z 2 41 72 [(0, .inr (.inr (.ref 38))), (1, .inl (a1)), (2, .inl ((sg_g σ 38 9))), (3, .inl (v4)), (4, .inl (v5)), (5, .inl (v6))] [.inr (.inl ((sx_atl σ7 18 200 (v5))))] σ7 (fun v σ' => v = none ∧ sg_F [16, 29, 30, 32, 33, 34, 39, 40, 7028, 10038, 11038, 13038, 14038] σ σ' ∧ Q σ')
          rw [sx_Fl (a := 18) (n := 200) (i := (v5)) hF8 rfl, sx_Fl (a := 18) (n := 200) (i := (v5)) hF3 rfl]
          refine wk_b tt_41 3 (pc' := 77) (ls' := [(8, .inl ((sg_g σ 38 9))), (6, .inr (.inl ((sx_atl σ 18 200 (v5))))), (0, .inr (.inr (.ref 38))), (1, .inl (a1)), (2, .inl ((sg_g σ 38 9))), (3, .inl (v4)), (4, .inl (v5)), (5, .inl (v6))]) (st' := []) (σ' := σ7) rfl ?_
          obtain ⟨I46, X48, ⟨μ47, w53⟩, w54, w55⟩ := w
          have ex57 : ∀ (σ44 : sg_S), sg_F [13038, 14038] σ7 σ44 → X48 σ44 → wx z 2 41 132 [(0, .inr (.inr (.ref 38))), (1, .inl (a1)), (2, .inl ((sg_g σ 38 9))), (3, .inl (v4)), (4, .inl (v5)), (5, .inl (v6)), (6, .inr (.inl ((sx_atl σ 18 200 (v5)))))] [] σ44 (fun v σ' => v = none ∧ sg_F [16, 29, 30, 32, 33, 34, 39, 40, 7028, 10038, 11038, 13038, 14038] σ σ' ∧ Q σ') := by
            intro σ44 hF45 w
            have w := w55 σ44 hF45 w
            refine wk_b tt_41 1 (pc' := 133) (ls' := [(0, .inr (.inr (.ref 38))), (1, .inl (a1)), (2, .inl ((sg_g σ 38 9))), (3, .inl (v4)), (4, .inl (v5)), (5, .inl (v6)), (6, .inr (.inl ((sx_atl σ 18 200 (v5)))))]) (st' := [.inl (v4)]) (σ' := σ44) rfl ?_
            obtain ⟨wp, w⟩ := w
            have jn59 : ∀ v60 : Int, v60 = (if v4 = 0 then (0 : Int) else (if (sx_at σ 6 200 (v5)) ≤ 0 then (0 : Int) else (1 : Int))) → sg_R v60 → wx z 2 41 156 [(0, .inr (.inr (.ref 38))), (1, .inl (a1)), (2, .inl ((sg_g σ 38 9))), (4, .inl (v5)), (5, .inl (v6)), (6, .inr (.inl ((sx_atl σ 18 200 (v5)))))] [.inl (v60)] σ44 (fun v σ' => v = none ∧ sg_F [16, 29, 30, 32, 33, 34, 39, 40, 7028, 10038, 11038, 13038, 14038] σ σ' ∧ Q σ') := by
              intro v60 e62 r61
              have w := w v60 e62 r61
              refine wk_b tt_41 7 (pc' := 169) (ls' := [(3, .inl (v60)), (0, .inr (.inr (.ref 38))), (1, .inl (a1)), (2, .inl ((sg_g σ 38 9))), (4, .inl (v5)), (5, .inl (v6)), (6, .inr (.inl ((sx_atl σ 18 200 (v5)))))]) (st' := [.inl (v5), .inr (.inr (.ref 6)), .inr (.inl ((sx_atl σ 18 200 (v5)))), .inr (.inr (.ref 38))]) (σ' := σ44) rfl ?_
              refine wk_callp tt_41 rfl rfl rfl rfl rfl tt_5 rfl (by decide) (at_i0 z σ44 6 200 (v5) rfl (by decide) r13) ?_
              show wx z 2 41 172 [(3, .inl (v60)), (0, .inr (.inr (.ref 38))), (1, .inl (a1)), (2, .inl ((sg_g σ 38 9))), (4, .inl (v5)), (5, .inl (v6)), (6, .inr (.inl ((sx_atl σ 18 200 (v5)))))] [.inl ((sx_at σ44 6 200 (v5))), .inr (.inl ((sx_atl σ 18 200 (v5)))), .inr (.inr (.ref 38))] σ44 (fun v σ' => v = none ∧ sg_F [16, 29, 30, 32, 33, 34, 39, 40, 7028, 10038, 11038, 13038, 14038] σ σ' ∧ Q σ')
              rw [sx_F (a := 6) (n := 200) (i := (v5)) hF45 rfl, sx_F (a := 6) (n := 200) (i := (v5)) hF8 rfl, sx_F (a := 6) (n := 200) (i := (v5)) hF3 rfl]
              obtain ⟨c63, w⟩ := w
              refine wk_b tt_41 2 (pc' := 174) (ls' := [(3, .inl (v60)), (0, .inr (.inr (.ref 38))), (1, .inl (a1)), (2, .inl ((sg_g σ 38 9))), (4, .inl (v5)), (5, .inl (v6)), (6, .inr (.inl ((sx_atl σ 18 200 (v5)))))]) (st' := [.inl (((sx_at σ 6 200 (v5)) - 1)), .inr (.inl ((sx_atl σ 18 200 (v5)))), .inr (.inr (.ref 38))]) (σ' := σ44) rfl ?_
              refine wk_call tt_41 rfl rfl rfl rfl rfl tt_27 rfl (by decide) (w_kBind z σ44 ((sx_atl σ 18 200 (v5))) (((sx_at σ 6 200 (v5)) - 1)) _ (sx_Rl ..) c63 w) (fun u69 σ65 hq67 => ?_)
              obtain ⟨q64, rfl, r68, hF66, w⟩ := hq67
              have w := w r68 hF66
              refine wk_b tt_41 5 (pc' := 187) (ls' := [(3, .inl (v60)), (0, .inr (.inr (.ref 38))), (1, .inl (a1)), (2, .inl ((sg_g σ 38 9))), (4, .inl (v5)), (5, .inl (v6)), (6, .inr (.inl ((sx_atl σ 18 200 (v5)))))]) (st' := [.inl (v5), .inr (.inr (.ref 9))]) (σ' := σ65) rfl ?_
              refine wk_callp tt_41 rfl rfl rfl rfl rfl tt_5 rfl (by decide) (at_i0 z σ65 9 200 (v5) rfl (by decide) r13) ?_
              show wx z 2 41 190 [(3, .inl (v60)), (0, .inr (.inr (.ref 38))), (1, .inl (a1)), (2, .inl ((sg_g σ 38 9))), (4, .inl (v5)), (5, .inl (v6)), (6, .inr (.inl ((sx_atl σ 18 200 (v5)))))] [.inl ((sx_at σ65 9 200 (v5)))] σ65 (fun v σ' => v = none ∧ sg_F [16, 29, 30, 32, 33, 34, 39, 40, 7028, 10038, 11038, 13038, 14038] σ σ' ∧ Q σ')
              rw [sx_F (a := 9) (n := 200) (i := (v5)) hF66 rfl, sx_F (a := 9) (n := 200) (i := (v5)) hF45 rfl, sx_F (a := 9) (n := 200) (i := (v5)) hF8 rfl, sx_F (a := 9) (n := 200) (i := (v5)) hF3 rfl]
              obtain ⟨c70, w⟩ := w
              refine wk_b tt_41 3 (pc' := 38) (ls' := [(5, .inl ((v6 + 1))), (4, .inl ((sx_at σ 9 200 (v5)))), (3, .inl (v60)), (0, .inr (.inr (.ref 38))), (1, .inl (a1)), (2, .inl ((sg_g σ 38 9))), (6, .inr (.inl ((sx_atl σ 18 200 (v5)))))]) (st' := []) (σ' := σ65) rfl ?_
              obtain ⟨m71, hm71, w⟩ := w
              exact wk_ls [(0, .inr (.inr (.ref 38))), (1, .inl (a1)), (2, .inl ((sg_g σ 38 9))), (3, .inl (v60)), (4, .inl ((sx_at σ 9 200 (v5)))), (5, .inl ((v6 + 1)))] rfl ⟨rfl, rfl, rfl, rfl, rfl, rfl, trivial⟩ (ih15 m71 hm71 (v60) ((sx_at σ 9 200 (v5))) ((v6 + 1)) σ65 r61 (sx_R ..) c70 (sg_F_t (sg_F_t (sg_F_t (sg_F_r [34, 39, 40, 10038, 11038, 13038, 14038] σ1) (sg_F_m (L := [34, 39, 40, 10038, 11038, 13038, 14038]) hF8 rfl)) (sg_F_m (L := [34, 39, 40, 10038, 11038, 13038, 14038]) hF45 rfl)) (sg_F_m (L := [34, 39, 40, 10038, 11038, 13038, 14038]) hF66 rfl)) w)
            have w := wp
            refine wk_if tt_41 (tgt := 155) rfl rfl r12 (fun (h58 : v4 = 0) => ?_) (fun (h58 : ¬ v4 = 0) => ?_)
            ·
              have w := w.1 h58
              refine wk_b tt_41 1 (pc' := 156) (ls' := [(0, .inr (.inr (.ref 38))), (1, .inl (a1)), (2, .inl ((sg_g σ 38 9))), (3, .inl (v4)), (4, .inl (v5)), (5, .inl (v6)), (6, .inr (.inl ((sx_atl σ 18 200 (v5)))))]) (st' := [.inl (0)]) (σ' := σ44) rfl ?_
              exact wk_ls [(0, .inr (.inr (.ref 38))), (1, .inl (a1)), (2, .inl ((sg_g σ 38 9))), (4, .inl (v5)), (5, .inl (v6)), (6, .inr (.inl ((sx_atl σ 18 200 (v5)))))] rfl ⟨rfl, rfl, rfl, rfl, rfl, rfl, trivial⟩ (jn59 (0) (by simp only [if_pos h58]) (by decide))
            ·
              have w := w.2 h58
              refine wk_b tt_41 4 (pc' := 145) (ls' := [(0, .inr (.inr (.ref 38))), (1, .inl (a1)), (2, .inl ((sg_g σ 38 9))), (3, .inl (v4)), (4, .inl (v5)), (5, .inl (v6)), (6, .inr (.inl ((sx_atl σ 18 200 (v5)))))]) (st' := [.inl (v5), .inr (.inr (.ref 6))]) (σ' := σ44) rfl ?_
              refine wk_callp tt_41 rfl rfl rfl rfl rfl tt_5 rfl (by decide) (at_i0 z σ44 6 200 (v5) rfl (by decide) r13) ?_
              show wx z 2 41 148 [(0, .inr (.inr (.ref 38))), (1, .inl (a1)), (2, .inl ((sg_g σ 38 9))), (3, .inl (v4)), (4, .inl (v5)), (5, .inl (v6)), (6, .inr (.inl ((sx_atl σ 18 200 (v5)))))] [.inl ((sx_at σ44 6 200 (v5)))] σ44 (fun v σ' => v = none ∧ sg_F [16, 29, 30, 32, 33, 34, 39, 40, 7028, 10038, 11038, 13038, 14038] σ σ' ∧ Q σ')
              rw [sx_F (a := 6) (n := 200) (i := (v5)) hF45 rfl, sx_F (a := 6) (n := 200) (i := (v5)) hF8 rfl, sx_F (a := 6) (n := 200) (i := (v5)) hF3 rfl]
              refine wk_if tt_41 (tgt := 155) rfl rfl (sx_R ..) (fun (h72 : (sx_at σ 6 200 (v5)) ≤ 0) => ?_) (fun (h72 : 0 < (sx_at σ 6 200 (v5))) => ?_)
              ·
                have w := w.1 h72
                refine wk_b tt_41 1 (pc' := 156) (ls' := [(0, .inr (.inr (.ref 38))), (1, .inl (a1)), (2, .inl ((sg_g σ 38 9))), (3, .inl (v4)), (4, .inl (v5)), (5, .inl (v6)), (6, .inr (.inl ((sx_atl σ 18 200 (v5)))))]) (st' := [.inl (0)]) (σ' := σ44) rfl ?_
                exact wk_ls [(0, .inr (.inr (.ref 38))), (1, .inl (a1)), (2, .inl ((sg_g σ 38 9))), (4, .inl (v5)), (5, .inl (v6)), (6, .inr (.inl ((sx_atl σ 18 200 (v5)))))] rfl ⟨rfl, rfl, rfl, rfl, rfl, rfl, trivial⟩ (jn59 (0) (by simp only [if_neg (show ¬ (v4 = 0) by omega), if_pos h72]) (by decide))
              ·
                have w := w.2 h72
                refine wk_b tt_41 2 (pc' := 156) (ls' := [(0, .inr (.inr (.ref 38))), (1, .inl (a1)), (2, .inl ((sg_g σ 38 9))), (3, .inl (v4)), (4, .inl (v5)), (5, .inl (v6)), (6, .inr (.inl ((sx_atl σ 18 200 (v5)))))]) (st' := [.inl (1)]) (σ' := σ44) rfl ?_
                exact wk_ls [(0, .inr (.inr (.ref 38))), (1, .inl (a1)), (2, .inl ((sg_g σ 38 9))), (4, .inl (v5)), (5, .inl (v6)), (6, .inr (.inl ((sx_atl σ 18 200 (v5)))))] rfl ⟨rfl, rfl, rfl, rfl, rfl, rfl, trivial⟩ (jn59 (1) (by simp only [if_neg (show ¬ (v4 = 0) by omega), if_neg (show ¬ ((sx_at σ 6 200 (v5)) ≤ 0) by omega)]) (by decide))
          have lp52 : ∀ (n56 : Nat) (v43 : Int) (σ44 : sg_S), sg_R v43 → sg_F [13038, 14038] σ7 σ44 → I46 n56 v43 σ44 → wx z 2 41 77 [(0, .inr (.inr (.ref 38))), (1, .inl (a1)), (2, .inl ((sg_g σ 38 9))), (3, .inl (v4)), (4, .inl (v5)), (5, .inl (v6)), (6, .inr (.inl ((sx_atl σ 18 200 (v5))))), (8, .inl (v43))] [] σ44 (fun v σ' => v = none ∧ sg_F [16, 29, 30, 32, 33, 34, 39, 40, 7028, 10038, 11038, 13038, 14038] σ σ' ∧ Q σ') := by
            intro n56
            induction n56 using Nat.strongRecOn with
            | _ n56 ih50 =>
              intro v43 σ44 r49 hF45 w
              have w := w54 n56 v43 σ44 r49 hF45 w
              refine wk_b tt_41 3 (pc' := 83) (ls' := [(0, .inr (.inr (.ref 38))), (1, .inl (a1)), (2, .inl ((sg_g σ 38 9))), (3, .inl (v4)), (4, .inl (v5)), (5, .inl (v6)), (6, .inr (.inl ((sx_atl σ 18 200 (v5))))), (8, .inl (v43))]) (st' := [.inl ((sg_g σ44 38 9)), .inl (v43)]) (σ' := σ44) rfl ?_
              rw [show (sg_g σ44 38 9) = (sg_g σ7 38 9) from by rw [sg_F_g hF45 rfl]]
              refine wk_if2 tt_41 (tgt := 132) rfl rfl r49 (sg_Rg _ _ _) (fun (h73 : (sg_g σ7 38 9) ≤ v43) => ?_) (fun (h73 : v43 < (sg_g σ7 38 9)) => ?_)
              ·
                have w := w.1 h73
                exact wk_ls [(0, .inr (.inr (.ref 38))), (1, .inl (a1)), (2, .inl ((sg_g σ 38 9))), (3, .inl (v4)), (4, .inl (v5)), (5, .inl (v6)), (6, .inr (.inl ((sx_atl σ 18 200 (v5)))))] rfl ⟨rfl, rfl, rfl, rfl, rfl, rfl, rfl, trivial⟩ (ex57  σ44  (sg_F_t (sg_F_r [13038, 14038] σ7) (sg_F_m (L := [13038, 14038]) hF45 rfl)) w)
              ·
                have w := w.2 h73
                refine wk_b tt_41 2 (pc' := 91) (ls' := [(0, .inr (.inr (.ref 38))), (1, .inl (a1)), (2, .inl ((sg_g σ 38 9))), (3, .inl (v4)), (4, .inl (v5)), (5, .inl (v6)), (6, .inr (.inl ((sx_atl σ 18 200 (v5))))), (8, .inl (v43))]) (st' := [.inl (272), .inl (v43)]) (σ' := σ44) rfl ?_
                refine wk_if2 tt_41 (tgt := 132) rfl rfl r49 (by decide) (fun (h74 : 272 ≤ v43) => ?_) (fun (h74 : v43 < 272) => ?_)
                ·
                  have w := w.1 h74
                  exact wk_ls [(0, .inr (.inr (.ref 38))), (1, .inl (a1)), (2, .inl ((sg_g σ 38 9))), (3, .inl (v4)), (4, .inl (v5)), (5, .inl (v6)), (6, .inr (.inl ((sx_atl σ 18 200 (v5)))))] rfl ⟨rfl, rfl, rfl, rfl, rfl, rfl, rfl, trivial⟩ (ex57  σ44  (sg_F_t (sg_F_r [13038, 14038] σ7) (sg_F_m (L := [13038, 14038]) hF45 rfl)) w)
                ·
                  have w := w.2 h74
                  refine wk_b tt_41 3 (pc' := 100) (ls' := [(0, .inr (.inr (.ref 38))), (1, .inl (a1)), (2, .inl ((sg_g σ 38 9))), (3, .inl (v4)), (4, .inl (v5)), (5, .inl (v6)), (6, .inr (.inl ((sx_atl σ 18 200 (v5))))), (8, .inl (v43))]) (st' := [.inl (v43), .inr (.inr (.ref 39))]) (σ' := σ44) rfl ?_
                  refine wk_callp tt_41 rfl rfl rfl rfl rfl tt_6 rfl (by decide) (at_l0 z σ44 39 272 (v43) rfl (by decide) r49) ?_
                  show wx z 2 41 103 [(0, .inr (.inr (.ref 38))), (1, .inl (a1)), (2, .inl ((sg_g σ 38 9))), (3, .inl (v4)), (4, .inl (v5)), (5, .inl (v6)), (6, .inr (.inl ((sx_atl σ 18 200 (v5))))), (8, .inl (v43))] [.inr (.inl ((sx_atl σ44 39 272 (v43))))] σ44 (fun v σ' => v = none ∧ sg_F [16, 29, 30, 32, 33, 34, 39, 40, 7028, 10038, 11038, 13038, 14038] σ σ' ∧ Q σ')
                  rw [sx_Fl (a := 39) (n := 272) (i := (v43)) hF45 rfl]
                  refine wk_b tt_41 1 (pc' := 105) (ls' := [(0, .inr (.inr (.ref 38))), (1, .inl (a1)), (2, .inl ((sg_g σ 38 9))), (3, .inl (v4)), (4, .inl (v5)), (5, .inl (v6)), (6, .inr (.inl ((sx_atl σ 18 200 (v5))))), (8, .inl (v43))]) (st' := [.inr (.inl ((sx_atl σ 18 200 (v5)))), .inr (.inl ((sx_atl σ7 39 272 (v43))))]) (σ' := σ44) rfl ?_
                  refine wk_lcif tt_41 (tgt := 126) rfl rfl rfl (sx_Rl ..) (sx_Rl ..) (fun (h75 : ¬ (sx_atl σ7 39 272 (v43)) = (sx_atl σ 18 200 (v5))) => ?_) (fun (h75 : (sx_atl σ7 39 272 (v43)) = (sx_atl σ 18 200 (v5))) => ?_)
                  ·
                    have w := w.1 h75
                    obtain ⟨c76, w⟩ := w
                    refine wk_b tt_41 2 (pc' := 77) (ls' := [(8, .inl ((v43 + 1))), (0, .inr (.inr (.ref 38))), (1, .inl (a1)), (2, .inl ((sg_g σ 38 9))), (3, .inl (v4)), (4, .inl (v5)), (5, .inl (v6)), (6, .inr (.inl ((sx_atl σ 18 200 (v5)))))]) (st' := []) (σ' := σ44) rfl ?_
                    obtain ⟨m77, hm77, w⟩ := w
                    exact wk_ls [(0, .inr (.inr (.ref 38))), (1, .inl (a1)), (2, .inl ((sg_g σ 38 9))), (3, .inl (v4)), (4, .inl (v5)), (5, .inl (v6)), (6, .inr (.inl ((sx_atl σ 18 200 (v5))))), (8, .inl ((v43 + 1)))] rfl ⟨rfl, rfl, rfl, rfl, rfl, rfl, rfl, rfl, trivial⟩ (ih50 m77 hm77 ((v43 + 1)) σ44 c76 (sg_F_t (sg_F_r [13038, 14038] σ7) (sg_F_m (L := [13038, 14038]) hF45 rfl)) w)
                  ·
                    have w := w.2 h75
                    refine wk_b tt_41 6 (pc' := 120) (ls' := [(0, .inr (.inr (.ref 38))), (1, .inl (a1)), (2, .inl ((sg_g σ 38 9))), (3, .inl (v4)), (4, .inl (v5)), (5, .inl (v6)), (6, .inr (.inl ((sx_atl σ 18 200 (v5))))), (8, .inl (v43))]) (st' := [.inl (v5), .inr (.inr (.ref 15)), .inl (2), .inr (.inr (.ref 38))]) (σ' := σ44) rfl ?_
                    refine wk_callp tt_41 rfl rfl rfl rfl rfl tt_5 rfl (by decide) (at_i0 z σ44 15 200 (v5) rfl (by decide) r13) ?_
                    show wx z 2 41 123 [(0, .inr (.inr (.ref 38))), (1, .inl (a1)), (2, .inl ((sg_g σ 38 9))), (3, .inl (v4)), (4, .inl (v5)), (5, .inl (v6)), (6, .inr (.inl ((sx_atl σ 18 200 (v5))))), (8, .inl (v43))] [.inl ((sx_at σ44 15 200 (v5))), .inl (2), .inr (.inr (.ref 38))] σ44 (fun v σ' => v = none ∧ sg_F [16, 29, 30, 32, 33, 34, 39, 40, 7028, 10038, 11038, 13038, 14038] σ σ' ∧ Q σ')
                    rw [sx_F (a := 15) (n := 200) (i := (v5)) hF45 rfl, sx_F (a := 15) (n := 200) (i := (v5)) hF8 rfl, sx_F (a := 15) (n := 200) (i := (v5)) hF3 rfl]
                    refine wk_call tt_41 rfl rfl rfl rfl rfl tt_28 rfl (by decide) (w_kBlame z σ44 (2) ((sx_at σ 15 200 (v5))) _ (by decide) (sx_R ..) w) (fun u83 σ79 hq81 => ?_)
                    obtain ⟨rfl, hF80, w⟩ := hq81
                    have w := w hF80
                    obtain ⟨c84, w⟩ := w
                    refine wk_b tt_41 2 (pc' := 77) (ls' := [(8, .inl ((v43 + 1))), (0, .inr (.inr (.ref 38))), (1, .inl (a1)), (2, .inl ((sg_g σ 38 9))), (3, .inl (v4)), (4, .inl (v5)), (5, .inl (v6)), (6, .inr (.inl ((sx_atl σ 18 200 (v5)))))]) (st' := []) (σ' := σ79) rfl ?_
                    obtain ⟨m85, hm85, w⟩ := w
                    exact wk_ls [(0, .inr (.inr (.ref 38))), (1, .inl (a1)), (2, .inl ((sg_g σ 38 9))), (3, .inl (v4)), (4, .inl (v5)), (5, .inl (v6)), (6, .inr (.inl ((sx_atl σ 18 200 (v5))))), (8, .inl ((v43 + 1)))] rfl ⟨rfl, rfl, rfl, rfl, rfl, rfl, rfl, rfl, trivial⟩ (ih50 m85 hm85 ((v43 + 1)) σ79 c84 (sg_F_t (sg_F_t (sg_F_r [13038, 14038] σ7) (sg_F_m (L := [13038, 14038]) hF45 rfl)) (sg_F_m (L := [13038, 14038]) hF80 rfl)) w)
          exact wk_ls [(0, .inr (.inr (.ref 38))), (1, .inl (a1)), (2, .inl ((sg_g σ 38 9))), (3, .inl (v4)), (4, .inl (v5)), (5, .inl (v6)), (6, .inr (.inl ((sx_atl σ 18 200 (v5))))), (8, .inl ((sg_g σ 38 9)))] rfl ⟨rfl, rfl, rfl, rfl, rfl, rfl, rfl, rfl, trivial⟩ (lp52 μ47 ((sg_g σ 38 9)) σ7 (sg_Rg _ _ _) (sg_F_r _ _) w53)
  exact wk_ls [(0, .inr (.inr (.ref 38))), (1, .inl (a1)), (2, .inl ((sg_g σ 38 9))), (3, .inl (1)), (4, .inl ((sx_at σ 7 200 (a1)))), (5, .inl (0))] rfl ⟨rfl, rfl, rfl, rfl, rfl, rfl, trivial⟩ (lp17 μ10 (1) ((sx_at σ 7 200 (a1))) (0) σ1 (by decide) (sx_R ..) (by decide) (sg_F_r _ _) w18)
