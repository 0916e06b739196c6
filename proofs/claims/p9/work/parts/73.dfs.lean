-- NestedVectors$Defs.add
set_option maxRecDepth 8000 in
theorem px_dad (z : Value) (σ : sg_S) (w1 : Int) (a3 : Int) (τ : sg_S) (ht : te σ τ) (ra3 : sg_R a3) : wx z 1 46 0 [(0, .inr (.inr (.ref 19))), (1, .inr (.inl (w1))), (3, .inl (a3))] [] σ (fun v σ' => v = none ∧ sg_F [20, 21, 23, 9019] σ σ' ∧ te σ' (pDAdd τ (w1) (a3))) := by
  refine wk_b tt_46 5 (pc' := 9) (ls' := [(0, .inr (.inr (.ref 19))), (1, .inr (.inl (w1))), (3, .inl (a3))]) (st' := [.inr (.inl (w1)), .inl ((sg_g σ 19 8)), .inr (.inr (.ref 20))]) (σ' := σ) rfl ?_
  have r1 := sg_Rg τ 19 8
  rw [show (sg_g σ 19 8) = (sg_g τ 19 8) from by rw [ag_g ht rfl]]
  refine wk_callp (v0 := none) (σ1 := (sx_putl σ 20 12 ((sg_g τ 19 8)) (w1))) tt_46 rfl rfl rfl rfl rfl tt_22 rfl (by decide) (pt_l0 z σ 20 12 ((sg_g τ 19 8)) (w1) rfl (by decide) (by omega)) ?_
  refine wk_b tt_46 5 (pc' := 21) (ls' := [(0, .inr (.inr (.ref 19))), (1, .inr (.inl (w1))), (3, .inl (a3))]) (st' := [.inl (a3), .inl ((sg_g (sx_putl σ 20 12 ((sg_g τ 19 8)) (w1)) 19 8)), .inr (.inr (.ref 21))]) (σ' := (sx_putl σ 20 12 ((sg_g τ 19 8)) (w1))) rfl ?_
  rw [show (sg_g (sx_putl σ 20 12 ((sg_g τ 19 8)) (w1)) 19 8) = (sg_g τ 19 8) from by rw [sx_putlx_c _ _ _ _ _ _ _ (by decide), ag_g ht rfl]]
  refine wk_callp (v0 := none) (σ1 := (sx_put (sx_putl σ 20 12 ((sg_g τ 19 8)) (w1)) 21 12 ((sg_g τ 19 8)) (a3))) tt_46 rfl rfl rfl rfl rfl tt_21 rfl (by decide) (pt_i0 z (sx_putl σ 20 12 ((sg_g τ 19 8)) (w1)) 21 12 ((sg_g τ 19 8)) (a3) rfl (by decide) (by omega)) ?_
  refine wk_b tt_46 5 (pc' := 33) (ls' := [(0, .inr (.inr (.ref 19))), (1, .inr (.inl (w1))), (3, .inl (a3))]) (st' := [.inl (0), .inl ((sg_g (sx_put (sx_putl σ 20 12 ((sg_g τ 19 8)) (w1)) 21 12 ((sg_g τ 19 8)) (a3)) 19 8)), .inr (.inr (.ref 23))]) (σ' := (sx_put (sx_putl σ 20 12 ((sg_g τ 19 8)) (w1)) 21 12 ((sg_g τ 19 8)) (a3))) rfl ?_
  rw [show (sg_g (sx_put (sx_putl σ 20 12 ((sg_g τ 19 8)) (w1)) 21 12 ((sg_g τ 19 8)) (a3)) 19 8) = (sg_g τ 19 8) from by rw [sx_put_c _ _ _ _ _ _ _ (by decide), sx_putlx_c _ _ _ _ _ _ _ (by decide), ag_g ht rfl]]
  refine wk_callp (v0 := none) (σ1 := (sx_put (sx_put (sx_putl σ 20 12 ((sg_g τ 19 8)) (w1)) 21 12 ((sg_g τ 19 8)) (a3)) 23 12 ((sg_g τ 19 8)) (0))) tt_46 rfl rfl rfl rfl rfl tt_21 rfl (by decide) (pt_i0 z (sx_put (sx_putl σ 20 12 ((sg_g τ 19 8)) (w1)) 21 12 ((sg_g τ 19 8)) (a3)) 23 12 ((sg_g τ 19 8)) (0) rfl (by decide) (by omega)) ?_
  refine wk_b tt_46 6 (pc' := 46) (ls' := [(0, .inr (.inr (.ref 19))), (1, .inr (.inl (w1))), (3, .inl (a3))]) (st' := []) (σ' := (sg_w (sx_put (sx_put (sx_putl σ 20 12 ((sg_g τ 19 8)) (w1)) 21 12 ((sg_g τ 19 8)) (a3)) 23 12 ((sg_g τ 19 8)) (0)) 19 8 (((sg_g (sx_put (sx_put (sx_putl σ 20 12 ((sg_g τ 19 8)) (w1)) 21 12 ((sg_g τ 19 8)) (a3)) 23 12 ((sg_g τ 19 8)) (0)) 19 8) + 1)))) rfl ?_
  rw [show (sg_g (sx_put (sx_put (sx_putl σ 20 12 ((sg_g τ 19 8)) (w1)) 21 12 ((sg_g τ 19 8)) (a3)) 23 12 ((sg_g τ 19 8)) (0)) 19 8) = (sg_g τ 19 8) from by rw [sx_put_c _ _ _ _ _ _ _ (by decide), sx_put_c _ _ _ _ _ _ _ (by decide), sx_putlx_c _ _ _ _ _ _ _ (by decide), ag_g ht rfl]]
  refine wk_rV tt_46 rfl rfl ?_
  exact ⟨rfl, (sg_F_w (sg_F_p (sg_F_p (sg_F_pl (sg_F_r [20, 21, 23, 9019] σ) rfl _ _ _) rfl _ _ _) rfl _ _ _) rfl _), (ag_w (ag_p (ag_p (ag_pl ht _ _ _ _) _ _ _ _) _ _ _ _) _ _ _)⟩
-- NestedVectors$Defs.addParam
set_option maxRecDepth 8000 in
theorem px_dpa (z : Value) (σ : sg_S) (a1 : Int) (w2 : Int) (a4 : Int) (τ : sg_S) (ht : te σ τ) (ra1 : sg_R a1) (ra4 : sg_R a4) : wx z 1 47 0 [(0, .inr (.inr (.ref 19))), (1, .inl (a1)), (2, .inr (.inl (w2))), (4, .inl (a4))] [] σ (fun v σ' => v = none ∧ sg_F [23, 25, 26] σ σ' ∧ te σ' (pDPar τ (a1) (w2) (a4))) := by
  refine wk_b tt_47 6 (pc' := 9) (ls' := [(0, .inr (.inr (.ref 19))), (1, .inl (a1)), (2, .inr (.inl (w2))), (4, .inl (a4))]) (st' := [.inl (a1), .inr (.inr (.ref 23)), .inl ((a1 * 6))]) (σ' := σ) rfl ?_
  refine wk_callp (v0 := some (.inl (sx_at σ 23 12 (a1)))) (σ1 := σ) tt_47 rfl rfl rfl rfl rfl tt_5 rfl (by decide) (at_i0 z σ 23 12 (a1) rfl (by decide) (by omega)) ?_
  rw [show (sx_at σ 23 12 (a1)) = (sx_at τ 23 12 (a1)) from ag_at ht rfl _ _]
  have r1 := sx_at_R τ 23 12 (a1)
  refine wk_b tt_47 6 (pc' := 22) (ls' := [(5, .inl (((a1 * 6) + (sx_at τ 23 12 (a1))))), (0, .inr (.inr (.ref 19))), (1, .inl (a1)), (2, .inr (.inl (w2))), (4, .inl (a4))]) (st' := [.inr (.inl (w2)), .inl (((a1 * 6) + (sx_at τ 23 12 (a1)))), .inr (.inr (.ref 25))]) (σ' := σ) rfl ?_
  refine wk_callp (v0 := none) (σ1 := (sx_putl σ 25 72 (sg_n (((a1 * 6) + (sx_at τ 23 12 (a1))))) (w2))) tt_47 rfl rfl rfl rfl rfl tt_22 rfl (by decide) (pt_l z σ 25 72 (((a1 * 6) + (sx_at τ 23 12 (a1)))) (w2) rfl (by decide)) ?_
  refine wk_b tt_47 4 (pc' := 33) (ls' := [(5, .inl (((a1 * 6) + (sx_at τ 23 12 (a1))))), (0, .inr (.inr (.ref 19))), (1, .inl (a1)), (2, .inr (.inl (w2))), (4, .inl (a4))]) (st' := [.inl (a4), .inl (((a1 * 6) + (sx_at τ 23 12 (a1)))), .inr (.inr (.ref 26))]) (σ' := (sx_putl σ 25 72 (sg_n (((a1 * 6) + (sx_at τ 23 12 (a1))))) (w2))) rfl ?_
  refine wk_callp (v0 := none) (σ1 := (sx_put (sx_putl σ 25 72 (sg_n (((a1 * 6) + (sx_at τ 23 12 (a1))))) (w2)) 26 72 (sg_n (((a1 * 6) + (sx_at τ 23 12 (a1))))) (a4))) tt_47 rfl rfl rfl rfl rfl tt_21 rfl (by decide) (pt_i z (sx_putl σ 25 72 (sg_n (((a1 * 6) + (sx_at τ 23 12 (a1))))) (w2)) 26 72 (((a1 * 6) + (sx_at τ 23 12 (a1)))) (a4) rfl (by decide)) ?_
  refine wk_b tt_47 6 (pc' := 46) (ls' := [(5, .inl (((a1 * 6) + (sx_at τ 23 12 (a1))))), (0, .inr (.inr (.ref 19))), (1, .inl (a1)), (2, .inr (.inl (w2))), (4, .inl (a4))]) (st' := [.inl (a1), .inr (.inr (.ref 23)), .inl (a1), .inr (.inr (.ref 23))]) (σ' := (sx_put (sx_putl σ 25 72 (sg_n (((a1 * 6) + (sx_at τ 23 12 (a1))))) (w2)) 26 72 (sg_n (((a1 * 6) + (sx_at τ 23 12 (a1))))) (a4))) rfl ?_
  refine wk_callp (v0 := some (.inl (sx_at (sx_put (sx_putl σ 25 72 (sg_n (((a1 * 6) + (sx_at τ 23 12 (a1))))) (w2)) 26 72 (sg_n (((a1 * 6) + (sx_at τ 23 12 (a1))))) (a4)) 23 12 (a1)))) (σ1 := (sx_put (sx_putl σ 25 72 (sg_n (((a1 * 6) + (sx_at τ 23 12 (a1))))) (w2)) 26 72 (sg_n (((a1 * 6) + (sx_at τ 23 12 (a1))))) (a4))) tt_47 rfl rfl rfl rfl rfl tt_5 rfl (by decide) (at_i0 z (sx_put (sx_putl σ 25 72 (sg_n (((a1 * 6) + (sx_at τ 23 12 (a1))))) (w2)) 26 72 (sg_n (((a1 * 6) + (sx_at τ 23 12 (a1))))) (a4)) 23 12 (a1) rfl (by decide) (by omega)) ?_
  rw [show (sx_at (sx_put (sx_putl σ 25 72 (sg_n (((a1 * 6) + (sx_at τ 23 12 (a1))))) (w2)) 26 72 (sg_n (((a1 * 6) + (sx_at τ 23 12 (a1))))) (a4)) 23 12 (a1)) = (sx_at (sx_put (sx_putl τ 25 72 (sg_n (((a1 * 6) + (sx_at τ 23 12 (a1))))) (w2)) 26 72 (sg_n (((a1 * 6) + (sx_at τ 23 12 (a1))))) (a4)) 23 12 (a1)) from ag_at (ag_p (ag_pl ht _ _ _ _) _ _ _ _) rfl _ _]
  have r2 := sx_at_R (sx_put (sx_putl τ 25 72 (sg_n (((a1 * 6) + (sx_at τ 23 12 (a1))))) (w2)) 26 72 (sg_n (((a1 * 6) + (sx_at τ 23 12 (a1))))) (a4)) 23 12 (a1)
  refine wk_b tt_47 2 (pc' := 51) (ls' := [(5, .inl (((a1 * 6) + (sx_at τ 23 12 (a1))))), (0, .inr (.inr (.ref 19))), (1, .inl (a1)), (2, .inr (.inl (w2))), (4, .inl (a4))]) (st' := [.inl (((sx_at (sx_put (sx_putl τ 25 72 (sg_n (((a1 * 6) + (sx_at τ 23 12 (a1))))) (w2)) 26 72 (sg_n (((a1 * 6) + (sx_at τ 23 12 (a1))))) (a4)) 23 12 (a1)) + 1)), .inl (a1), .inr (.inr (.ref 23))]) (σ' := (sx_put (sx_putl σ 25 72 (sg_n (((a1 * 6) + (sx_at τ 23 12 (a1))))) (w2)) 26 72 (sg_n (((a1 * 6) + (sx_at τ 23 12 (a1))))) (a4))) rfl ?_
  refine wk_callp (v0 := none) (σ1 := (sx_put (sx_put (sx_putl σ 25 72 (sg_n (((a1 * 6) + (sx_at τ 23 12 (a1))))) (w2)) 26 72 (sg_n (((a1 * 6) + (sx_at τ 23 12 (a1))))) (a4)) 23 12 (a1) (((sx_at (sx_put (sx_putl τ 25 72 (sg_n (((a1 * 6) + (sx_at τ 23 12 (a1))))) (w2)) 26 72 (sg_n (((a1 * 6) + (sx_at τ 23 12 (a1))))) (a4)) 23 12 (a1)) + 1)))) tt_47 rfl rfl rfl rfl rfl tt_21 rfl (by decide) (pt_i0 z (sx_put (sx_putl σ 25 72 (sg_n (((a1 * 6) + (sx_at τ 23 12 (a1))))) (w2)) 26 72 (sg_n (((a1 * 6) + (sx_at τ 23 12 (a1))))) (a4)) 23 12 (a1) (((sx_at (sx_put (sx_putl τ 25 72 (sg_n (((a1 * 6) + (sx_at τ 23 12 (a1))))) (w2)) 26 72 (sg_n (((a1 * 6) + (sx_at τ 23 12 (a1))))) (a4)) 23 12 (a1)) + 1)) rfl (by decide) (by omega)) ?_
  refine wk_rV tt_47 rfl rfl ?_
  exact ⟨rfl, (sg_F_p (sg_F_p (sg_F_pl (sg_F_r [23, 25, 26] σ) rfl _ _ _) rfl _ _ _) rfl _ _ _), (ag_p (ag_p (ag_pl ht _ _ _ _) _ _ _ _) _ _ _ _)⟩
-- NestedVectors$Defs.add x.defs a1 a2
set_option maxRecDepth 8000 in
theorem bq_0 (z : Value) (σ : sg_S) (a1 : Int) (a2 : Int) : wx z 1 46 0 [(0, .inr (.inr (.ref 19))), (1, .inr (.inl (a1))), (3, .inl (a2))] [] σ (fun v σ' => v = none ∧ sg_F [19, 20, 21, 23] σ σ') := by
  have hF0 := sg_F_r [19, 20, 21, 23] σ
  refine wk_b tt_46 5 (pc' := 9) (ls' := [(0, .inr (.inr (.ref 19))), (1, .inr (.inl (a1))), (3, .inl (a2))]) (st' := [.inr (.inl (a1)), .inl ((sg_g σ 19 8)), .inr (.inr (.ref 20))]) (σ' := σ) rfl ?_
  refine wk_callp tt_46 rfl rfl rfl rfl rfl tt_22 rfl (by decide) (pt_l z σ 20 12 ((sg_g σ 19 8)) (a1) rfl (by decide)) ?_
  have hF4 : sg_F [19, 20, 21, 23] σ (sx_putl σ 20 12 (sg_n ((sg_g σ 19 8))) (a1)) := sg_F_pl hF0 rfl _ _ _
  generalize (sx_putl σ 20 12 (sg_n ((sg_g σ 19 8))) (a1)) = σ5 at hF4 ⊢
  refine wk_b tt_46 5 (pc' := 21) (ls' := [(0, .inr (.inr (.ref 19))), (1, .inr (.inl (a1))), (3, .inl (a2))]) (st' := [.inl (a2), .inl ((sg_g σ5 19 8)), .inr (.inr (.ref 21))]) (σ' := σ5) rfl ?_
  refine wk_callp tt_46 rfl rfl rfl rfl rfl tt_21 rfl (by decide) (pt_i z σ5 21 12 ((sg_g σ5 19 8)) (a2) rfl (by decide)) ?_
  have hF9 : sg_F [19, 20, 21, 23] σ (sx_put σ5 21 12 (sg_n ((sg_g σ5 19 8))) (a2)) := sg_F_p hF4 rfl _ _ _
  generalize (sx_put σ5 21 12 (sg_n ((sg_g σ5 19 8))) (a2)) = σ10 at hF9 ⊢
  refine wk_b tt_46 5 (pc' := 33) (ls' := [(0, .inr (.inr (.ref 19))), (1, .inr (.inl (a1))), (3, .inl (a2))]) (st' := [.inl (0), .inl ((sg_g σ10 19 8)), .inr (.inr (.ref 23))]) (σ' := σ10) rfl ?_
  refine wk_callp tt_46 rfl rfl rfl rfl rfl tt_21 rfl (by decide) (pt_i z σ10 23 12 ((sg_g σ10 19 8)) (0) rfl (by decide)) ?_
  have hF14 : sg_F [19, 20, 21, 23] σ (sx_put σ10 23 12 (sg_n ((sg_g σ10 19 8))) (0)) := sg_F_p hF9 rfl _ _ _
  generalize (sx_put σ10 23 12 (sg_n ((sg_g σ10 19 8))) (0)) = σ15 at hF14 ⊢
  refine wk_b tt_46 6 (pc' := 46) (ls' := [(0, .inr (.inr (.ref 19))), (1, .inr (.inl (a1))), (3, .inl (a2))]) (st' := []) (σ' := (sg_w σ15 19 8 (((sg_g σ15 19 8) + 1)))) rfl ?_
  have hF16 : sg_F [19, 20, 21, 23] σ (sg_w σ15 19 8 (((sg_g σ15 19 8) + 1))) := (sg_F_w hF14 rfl _)
  generalize (sg_w σ15 19 8 (((sg_g σ15 19 8) + 1))) = σ17 at hF16 ⊢
  exact wk_rV tt_46 rfl rfl ⟨rfl, hF16⟩
-- NestedVectors$Defs.addParam x.defs a1 a2 a3
set_option maxRecDepth 8000 in
theorem bq_1 (z : Value) (σ : sg_S) (a1 : Int) (a2 : Int) (a3 : Int) : wx z 1 47 0 [(0, .inr (.inr (.ref 19))), (1, .inl (a1)), (2, .inr (.inl (a2))), (4, .inl (a3))] [] σ (fun v σ' => v = none ∧ sg_F [23, 25, 26] σ σ') := by
  have hF0 := sg_F_r [23, 25, 26] σ
  refine wk_b tt_47 6 (pc' := 9) (ls' := [(0, .inr (.inr (.ref 19))), (1, .inl (a1)), (2, .inr (.inl (a2))), (4, .inl (a3))]) (st' := [.inl (a1), .inr (.inr (.ref 23)), .inl ((a1 * 6))]) (σ' := σ) rfl ?_
  refine wk_callp tt_47 rfl rfl rfl rfl rfl tt_5 rfl (by decide) (at_i z σ 23 12 (a1) rfl (by decide)) ?_
  generalize sx_at σ 23 12 (sg_n (a1)) = q4
  refine wk_b tt_47 6 (pc' := 22) (ls' := [(5, .inl (((a1 * 6) + q4))), (0, .inr (.inr (.ref 19))), (1, .inl (a1)), (2, .inr (.inl (a2))), (4, .inl (a3))]) (st' := [.inr (.inl (a2)), .inl (((a1 * 6) + q4)), .inr (.inr (.ref 25))]) (σ' := σ) rfl ?_
  refine wk_callp tt_47 rfl rfl rfl rfl rfl tt_22 rfl (by decide) (pt_l z σ 25 72 (((a1 * 6) + q4)) (a2) rfl (by decide)) ?_
  have hF8 : sg_F [23, 25, 26] σ (sx_putl σ 25 72 (sg_n (((a1 * 6) + q4))) (a2)) := sg_F_pl hF0 rfl _ _ _
  generalize (sx_putl σ 25 72 (sg_n (((a1 * 6) + q4))) (a2)) = σ9 at hF8 ⊢
  refine wk_b tt_47 4 (pc' := 33) (ls' := [(5, .inl (((a1 * 6) + q4))), (0, .inr (.inr (.ref 19))), (1, .inl (a1)), (2, .inr (.inl (a2))), (4, .inl (a3))]) (st' := [.inl (a3), .inl (((a1 * 6) + q4)), .inr (.inr (.ref 26))]) (σ' := σ9) rfl ?_
  refine wk_callp tt_47 rfl rfl rfl rfl rfl tt_21 rfl (by decide) (pt_i z σ9 26 72 (((a1 * 6) + q4)) (a3) rfl (by decide)) ?_
  have hF13 : sg_F [23, 25, 26] σ (sx_put σ9 26 72 (sg_n (((a1 * 6) + q4))) (a3)) := sg_F_p hF8 rfl _ _ _
  generalize (sx_put σ9 26 72 (sg_n (((a1 * 6) + q4))) (a3)) = σ14 at hF13 ⊢
  refine wk_b tt_47 6 (pc' := 46) (ls' := [(5, .inl (((a1 * 6) + q4))), (0, .inr (.inr (.ref 19))), (1, .inl (a1)), (2, .inr (.inl (a2))), (4, .inl (a3))]) (st' := [.inl (a1), .inr (.inr (.ref 23)), .inl (a1), .inr (.inr (.ref 23))]) (σ' := σ14) rfl ?_
  refine wk_callp tt_47 rfl rfl rfl rfl rfl tt_5 rfl (by decide) (at_i z σ14 23 12 (a1) rfl (by decide)) ?_
  generalize sx_at σ14 23 12 (sg_n (a1)) = q18
  refine wk_b tt_47 2 (pc' := 51) (ls' := [(5, .inl (((a1 * 6) + q4))), (0, .inr (.inr (.ref 19))), (1, .inl (a1)), (2, .inr (.inl (a2))), (4, .inl (a3))]) (st' := [.inl ((q18 + 1)), .inl (a1), .inr (.inr (.ref 23))]) (σ' := σ14) rfl ?_
  refine wk_callp tt_47 rfl rfl rfl rfl rfl tt_21 rfl (by decide) (pt_i z σ14 23 12 (a1) ((q18 + 1)) rfl (by decide)) ?_
  have hF22 : sg_F [23, 25, 26] σ (sx_put σ14 23 12 (sg_n (a1)) ((q18 + 1))) := sg_F_p hF13 rfl _ _ _
  generalize (sx_put σ14 23 12 (sg_n (a1)) ((q18 + 1))) = σ23 at hF22 ⊢
  exact wk_rV tt_47 rfl rfl ⟨rfl, hF22⟩
