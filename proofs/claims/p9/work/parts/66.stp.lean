-- NestedVectors$Tree.add x.tree a1 a2
set_option maxRecDepth 8000 in
theorem bp_0 (z : Value) (σ : sg_S) (a1 : Int) (a2 : Int) : wx z 1 204 0 [(0, .inr (.inr (.ref 2))), (1, .inl (a1)), (2, .inl (a2))] [] σ (fun v σ' => (∃ q, v = some (.inl q)) ∧ sg_F [2, 3, 4, 7, 8, 9, 10, 11, 12, 13, 14] σ σ') := by
  have hF0 := sg_F_r [2, 3, 4, 7, 8, 9, 10, 11, 12, 13, 14] σ
  refine wk_b tt_204 13 (pc' := 21) (ls' := [(3, .inl ((sg_g σ 2 16))), (0, .inr (.inr (.ref 2))), (1, .inl (a1)), (2, .inl (a2))]) (st' := [.inl (a1), .inl ((sg_g σ 2 16)), .inr (.inr (.ref 3))]) (σ' := (sg_w σ 2 16 (((sg_g σ 2 16) + 1)))) rfl ?_
  have hF1 : sg_F [2, 3, 4, 7, 8, 9, 10, 11, 12, 13, 14] σ (sg_w σ 2 16 (((sg_g σ 2 16) + 1))) := (sg_F_w hF0 rfl _)
  generalize (sg_w σ 2 16 (((sg_g σ 2 16) + 1))) = σ2 at hF1 ⊢
  refine wk_callp tt_204 rfl rfl rfl rfl rfl tt_21 rfl (by decide) (pt_i z σ2 3 200 ((sg_g σ 2 16)) (a1) rfl (by decide)) ?_
  have hF6 : sg_F [2, 3, 4, 7, 8, 9, 10, 11, 12, 13, 14] σ (sx_put σ2 3 200 (sg_n ((sg_g σ 2 16))) (a1)) := sg_F_p hF1 rfl _ _ _
  generalize (sx_put σ2 3 200 (sg_n ((sg_g σ 2 16))) (a1)) = σ7 at hF6 ⊢
  refine wk_b tt_204 4 (pc' := 30) (ls' := [(3, .inl ((sg_g σ 2 16))), (0, .inr (.inr (.ref 2))), (1, .inl (a1)), (2, .inl (a2))]) (st' := [.inl (a2), .inl ((sg_g σ 2 16)), .inr (.inr (.ref 4))]) (σ' := σ7) rfl ?_
  refine wk_callp tt_204 rfl rfl rfl rfl rfl tt_21 rfl (by decide) (pt_i z σ7 4 200 ((sg_g σ 2 16)) (a2) rfl (by decide)) ?_
  have hF11 : sg_F [2, 3, 4, 7, 8, 9, 10, 11, 12, 13, 14] σ (sx_put σ7 4 200 (sg_n ((sg_g σ 2 16))) (a2)) := sg_F_p hF6 rfl _ _ _
  generalize (sx_put σ7 4 200 (sg_n ((sg_g σ 2 16))) (a2)) = σ12 at hF11 ⊢
  refine wk_b tt_204 4 (pc' := 39) (ls' := [(3, .inl ((sg_g σ 2 16))), (0, .inr (.inr (.ref 2))), (1, .inl (a1)), (2, .inl (a2))]) (st' := [.inl ((-1)), .inl ((sg_g σ 2 16)), .inr (.inr (.ref 7))]) (σ' := σ12) rfl ?_
  refine wk_callp tt_204 rfl rfl rfl rfl rfl tt_21 rfl (by decide) (pt_i z σ12 7 200 ((sg_g σ 2 16)) ((-1)) rfl (by decide)) ?_
  have hF16 : sg_F [2, 3, 4, 7, 8, 9, 10, 11, 12, 13, 14] σ (sx_put σ12 7 200 (sg_n ((sg_g σ 2 16))) ((-1))) := sg_F_p hF11 rfl _ _ _
  generalize (sx_put σ12 7 200 (sg_n ((sg_g σ 2 16))) ((-1))) = σ17 at hF16 ⊢
  refine wk_b tt_204 4 (pc' := 48) (ls' := [(3, .inl ((sg_g σ 2 16))), (0, .inr (.inr (.ref 2))), (1, .inl (a1)), (2, .inl (a2))]) (st' := [.inl ((-1)), .inl ((sg_g σ 2 16)), .inr (.inr (.ref 8))]) (σ' := σ17) rfl ?_
  refine wk_callp tt_204 rfl rfl rfl rfl rfl tt_21 rfl (by decide) (pt_i z σ17 8 200 ((sg_g σ 2 16)) ((-1)) rfl (by decide)) ?_
  have hF21 : sg_F [2, 3, 4, 7, 8, 9, 10, 11, 12, 13, 14] σ (sx_put σ17 8 200 (sg_n ((sg_g σ 2 16))) ((-1))) := sg_F_p hF16 rfl _ _ _
  generalize (sx_put σ17 8 200 (sg_n ((sg_g σ 2 16))) ((-1))) = σ22 at hF21 ⊢
  refine wk_b tt_204 4 (pc' := 57) (ls' := [(3, .inl ((sg_g σ 2 16))), (0, .inr (.inr (.ref 2))), (1, .inl (a1)), (2, .inl (a2))]) (st' := [.inl ((-1)), .inl ((sg_g σ 2 16)), .inr (.inr (.ref 9))]) (σ' := σ22) rfl ?_
  refine wk_callp tt_204 rfl rfl rfl rfl rfl tt_21 rfl (by decide) (pt_i z σ22 9 200 ((sg_g σ 2 16)) ((-1)) rfl (by decide)) ?_
  have hF26 : sg_F [2, 3, 4, 7, 8, 9, 10, 11, 12, 13, 14] σ (sx_put σ22 9 200 (sg_n ((sg_g σ 2 16))) ((-1))) := sg_F_p hF21 rfl _ _ _
  generalize (sx_put σ22 9 200 (sg_n ((sg_g σ 2 16))) ((-1))) = σ27 at hF26 ⊢
  refine wk_b tt_204 4 (pc' := 66) (ls' := [(3, .inl ((sg_g σ 2 16))), (0, .inr (.inr (.ref 2))), (1, .inl (a1)), (2, .inl (a2))]) (st' := [.inl (0), .inl ((sg_g σ 2 16)), .inr (.inr (.ref 10))]) (σ' := σ27) rfl ?_
  refine wk_callp tt_204 rfl rfl rfl rfl rfl tt_21 rfl (by decide) (pt_i z σ27 10 200 ((sg_g σ 2 16)) (0) rfl (by decide)) ?_
  have hF31 : sg_F [2, 3, 4, 7, 8, 9, 10, 11, 12, 13, 14] σ (sx_put σ27 10 200 (sg_n ((sg_g σ 2 16))) (0)) := sg_F_p hF26 rfl _ _ _
  generalize (sx_put σ27 10 200 (sg_n ((sg_g σ 2 16))) (0)) = σ32 at hF31 ⊢
  refine wk_b tt_204 4 (pc' := 75) (ls' := [(3, .inl ((sg_g σ 2 16))), (0, .inr (.inr (.ref 2))), (1, .inl (a1)), (2, .inl (a2))]) (st' := [.inl (0), .inl ((sg_g σ 2 16)), .inr (.inr (.ref 13))]) (σ' := σ32) rfl ?_
  refine wk_callp tt_204 rfl rfl rfl rfl rfl tt_21 rfl (by decide) (pt_i z σ32 13 200 ((sg_g σ 2 16)) (0) rfl (by decide)) ?_
  have hF36 : sg_F [2, 3, 4, 7, 8, 9, 10, 11, 12, 13, 14] σ (sx_put σ32 13 200 (sg_n ((sg_g σ 2 16))) (0)) := sg_F_p hF31 rfl _ _ _
  generalize (sx_put σ32 13 200 (sg_n ((sg_g σ 2 16))) (0)) = σ37 at hF36 ⊢
  refine wk_b tt_204 4 (pc' := 84) (ls' := [(3, .inl ((sg_g σ 2 16))), (0, .inr (.inr (.ref 2))), (1, .inl (a1)), (2, .inl (a2))]) (st' := [.inl ((-1)), .inl ((sg_g σ 2 16)), .inr (.inr (.ref 14))]) (σ' := σ37) rfl ?_
  refine wk_callp tt_204 rfl rfl rfl rfl rfl tt_21 rfl (by decide) (pt_i z σ37 14 200 ((sg_g σ 2 16)) ((-1)) rfl (by decide)) ?_
  have hF41 : sg_F [2, 3, 4, 7, 8, 9, 10, 11, 12, 13, 14] σ (sx_put σ37 14 200 (sg_n ((sg_g σ 2 16))) ((-1))) := sg_F_p hF36 rfl _ _ _
  generalize (sx_put σ37 14 200 (sg_n ((sg_g σ 2 16))) ((-1))) = σ42 at hF41 ⊢
  refine wk_b tt_204 4 (pc' := 93) (ls' := [(3, .inl ((sg_g σ 2 16))), (0, .inr (.inr (.ref 2))), (1, .inl (a1)), (2, .inl (a2))]) (st' := [.inl ((sg_g σ 2 16)), .inl ((sg_g σ 2 16)), .inr (.inr (.ref 11))]) (σ' := σ42) rfl ?_
  refine wk_callp tt_204 rfl rfl rfl rfl rfl tt_21 rfl (by decide) (pt_i z σ42 11 200 ((sg_g σ 2 16)) ((sg_g σ 2 16)) rfl (by decide)) ?_
  have hF46 : sg_F [2, 3, 4, 7, 8, 9, 10, 11, 12, 13, 14] σ (sx_put σ42 11 200 (sg_n ((sg_g σ 2 16))) ((sg_g σ 2 16))) := sg_F_p hF41 rfl _ _ _
  generalize (sx_put σ42 11 200 (sg_n ((sg_g σ 2 16))) ((sg_g σ 2 16))) = σ47 at hF46 ⊢
  refine wk_b tt_204 4 (pc' := 102) (ls' := [(3, .inl ((sg_g σ 2 16))), (0, .inr (.inr (.ref 2))), (1, .inl (a1)), (2, .inl (a2))]) (st' := [.inl ((sg_g σ 2 16)), .inl ((sg_g σ 2 16)), .inr (.inr (.ref 12))]) (σ' := σ47) rfl ?_
  refine wk_callp tt_204 rfl rfl rfl rfl rfl tt_21 rfl (by decide) (pt_i z σ47 12 200 ((sg_g σ 2 16)) ((sg_g σ 2 16)) rfl (by decide)) ?_
  have hF51 : sg_F [2, 3, 4, 7, 8, 9, 10, 11, 12, 13, 14] σ (sx_put σ47 12 200 (sg_n ((sg_g σ 2 16))) ((sg_g σ 2 16))) := sg_F_p hF46 rfl _ _ _
  generalize (sx_put σ47 12 200 (sg_n ((sg_g σ 2 16))) ((sg_g σ 2 16))) = σ52 at hF51 ⊢
  refine wk_b tt_204 1 (pc' := 106) (ls' := [(3, .inl ((sg_g σ 2 16))), (0, .inr (.inr (.ref 2))), (1, .inl (a1)), (2, .inl (a2))]) (st' := [.inl ((sg_g σ 2 16))]) (σ' := σ52) rfl ?_
  exact wk_rI tt_204 rfl rfl ⟨⟨_, rfl⟩, hF51⟩
-- NestedVectors$Tree.attach x.tree a1 a2
set_option maxRecDepth 8000 in
theorem bp_1 (z : Value) (σ : sg_S) (a1 : Int) (a2 : Int) : wx z 1 205 0 [(0, .inr (.inr (.ref 2))), (1, .inl (a1)), (2, .inl (a2))] [] σ (fun v σ' => v = none ∧ sg_F [7, 8, 9, 10] σ σ') := by
  have hF0 := sg_F_r [7, 8, 9, 10] σ
  refine wk_b tt_205 1 (pc' := 1) (ls' := [(0, .inr (.inr (.ref 2))), (1, .inl (a1)), (2, .inl (a2))]) (st' := [.inl (a1)]) (σ' := σ) rfl ?_
  refine wk_ifb tt_205 (tgt := 8) rfl rfl ?_ ?_
  ·
    exact wk_rV tt_205 rfl rfl ⟨rfl, hF0⟩
  ·
    refine wk_b tt_205 1 (pc' := 5) (ls' := [(0, .inr (.inr (.ref 2))), (1, .inl (a1)), (2, .inl (a2))]) (st' := [.inl (a2)]) (σ' := σ) rfl ?_
    refine wk_ifb tt_205 (tgt := 9) rfl rfl ?_ ?_
    ·
      refine wk_b tt_205 3 (pc' := 14) (ls' := [(0, .inr (.inr (.ref 2))), (1, .inl (a1)), (2, .inl (a2))]) (st' := [.inl (a1), .inr (.inr (.ref 10))]) (σ' := σ) rfl ?_
      refine wk_callp tt_205 rfl rfl rfl rfl rfl tt_5 rfl (by decide) (at_i z σ 10 200 (a1) rfl (by decide)) ?_
      generalize sx_at σ 10 200 (sg_n (a1)) = q6
      refine wk_ifb tt_205 (tgt := 32) rfl rfl ?_ ?_
      ·
        refine wk_b tt_205 5 (pc' := 41) (ls' := [(0, .inr (.inr (.ref 2))), (1, .inl (a1)), (2, .inl (a2))]) (st' := [.inl (a1), .inr (.inr (.ref 8)), .inr (.inr (.ref 9))]) (σ' := σ) rfl ?_
        refine wk_callp tt_205 rfl rfl rfl rfl rfl tt_5 rfl (by decide) (at_i z σ 8 200 (a1) rfl (by decide)) ?_
        generalize sx_at σ 8 200 (sg_n (a1)) = q11
        refine wk_b tt_205 1 (pc' := 45) (ls' := [(0, .inr (.inr (.ref 2))), (1, .inl (a1)), (2, .inl (a2))]) (st' := [.inl (a2), .inl (q11), .inr (.inr (.ref 9))]) (σ' := σ) rfl ?_
        refine wk_callp tt_205 rfl rfl rfl rfl rfl tt_21 rfl (by decide) (pt_i z σ 9 200 (q11) (a2) rfl (by decide)) ?_
        have hF15 : sg_F [7, 8, 9, 10] σ (sx_put σ 9 200 (sg_n (q11)) (a2)) := sg_F_p hF0 rfl _ _ _
        generalize (sx_put σ 9 200 (sg_n (q11)) (a2)) = σ16 at hF15 ⊢
        refine wk_b tt_205 4 (pc' := 54) (ls' := [(0, .inr (.inr (.ref 2))), (1, .inl (a1)), (2, .inl (a2))]) (st' := [.inl (a2), .inl (a1), .inr (.inr (.ref 8))]) (σ' := σ16) rfl ?_
        refine wk_callp tt_205 rfl rfl rfl rfl rfl tt_21 rfl (by decide) (pt_i z σ16 8 200 (a1) (a2) rfl (by decide)) ?_
        have hF20 : sg_F [7, 8, 9, 10] σ (sx_put σ16 8 200 (sg_n (a1)) (a2)) := sg_F_p hF15 rfl _ _ _
        generalize (sx_put σ16 8 200 (sg_n (a1)) (a2)) = σ21 at hF20 ⊢
        refine wk_b tt_205 6 (pc' := 67) (ls' := [(0, .inr (.inr (.ref 2))), (1, .inl (a1)), (2, .inl (a2))]) (st' := [.inl (a1), .inr (.inr (.ref 10)), .inl (a1), .inr (.inr (.ref 10))]) (σ' := σ21) rfl ?_
        refine wk_callp tt_205 rfl rfl rfl rfl rfl tt_5 rfl (by decide) (at_i z σ21 10 200 (a1) rfl (by decide)) ?_
        generalize sx_at σ21 10 200 (sg_n (a1)) = q25
        refine wk_b tt_205 2 (pc' := 72) (ls' := [(0, .inr (.inr (.ref 2))), (1, .inl (a1)), (2, .inl (a2))]) (st' := [.inl ((q25 + 1)), .inl (a1), .inr (.inr (.ref 10))]) (σ' := σ21) rfl ?_
        refine wk_callp tt_205 rfl rfl rfl rfl rfl tt_21 rfl (by decide) (pt_i z σ21 10 200 (a1) ((q25 + 1)) rfl (by decide)) ?_
        have hF29 : sg_F [7, 8, 9, 10] σ (sx_put σ21 10 200 (sg_n (a1)) ((q25 + 1))) := sg_F_p hF20 rfl _ _ _
        generalize (sx_put σ21 10 200 (sg_n (a1)) ((q25 + 1))) = σ30 at hF29 ⊢
        exact wk_rV tt_205 rfl rfl ⟨rfl, hF29⟩
      ·
        refine wk_b tt_205 4 (pc' := 26) (ls' := [(0, .inr (.inr (.ref 2))), (1, .inl (a1)), (2, .inl (a2))]) (st' := [.inl (a2), .inl (a1), .inr (.inr (.ref 7))]) (σ' := σ) rfl ?_
        refine wk_callp tt_205 rfl rfl rfl rfl rfl tt_21 rfl (by decide) (pt_i z σ 7 200 (a1) (a2) rfl (by decide)) ?_
        have hF34 : sg_F [7, 8, 9, 10] σ (sx_put σ 7 200 (sg_n (a1)) (a2)) := sg_F_p hF0 rfl _ _ _
        generalize (sx_put σ 7 200 (sg_n (a1)) (a2)) = σ35 at hF34 ⊢
        refine wk_b tt_205 5 (pc' := 54) (ls' := [(0, .inr (.inr (.ref 2))), (1, .inl (a1)), (2, .inl (a2))]) (st' := [.inl (a2), .inl (a1), .inr (.inr (.ref 8))]) (σ' := σ35) rfl ?_
        refine wk_callp tt_205 rfl rfl rfl rfl rfl tt_21 rfl (by decide) (pt_i z σ35 8 200 (a1) (a2) rfl (by decide)) ?_
        have hF39 : sg_F [7, 8, 9, 10] σ (sx_put σ35 8 200 (sg_n (a1)) (a2)) := sg_F_p hF34 rfl _ _ _
        generalize (sx_put σ35 8 200 (sg_n (a1)) (a2)) = σ40 at hF39 ⊢
        refine wk_b tt_205 6 (pc' := 67) (ls' := [(0, .inr (.inr (.ref 2))), (1, .inl (a1)), (2, .inl (a2))]) (st' := [.inl (a1), .inr (.inr (.ref 10)), .inl (a1), .inr (.inr (.ref 10))]) (σ' := σ40) rfl ?_
        refine wk_callp tt_205 rfl rfl rfl rfl rfl tt_5 rfl (by decide) (at_i z σ40 10 200 (a1) rfl (by decide)) ?_
        generalize sx_at σ40 10 200 (sg_n (a1)) = q44
        refine wk_b tt_205 2 (pc' := 72) (ls' := [(0, .inr (.inr (.ref 2))), (1, .inl (a1)), (2, .inl (a2))]) (st' := [.inl ((q44 + 1)), .inl (a1), .inr (.inr (.ref 10))]) (σ' := σ40) rfl ?_
        refine wk_callp tt_205 rfl rfl rfl rfl rfl tt_21 rfl (by decide) (pt_i z σ40 10 200 (a1) ((q44 + 1)) rfl (by decide)) ?_
        have hF48 : sg_F [7, 8, 9, 10] σ (sx_put σ40 10 200 (sg_n (a1)) ((q44 + 1))) := sg_F_p hF39 rfl _ _ _
        generalize (sx_put σ40 10 200 (sg_n (a1)) ((q44 + 1))) = σ49 at hF48 ⊢
        exact wk_rV tt_205 rfl rfl ⟨rfl, hF48⟩
    ·
      exact wk_rV tt_205 rfl rfl ⟨rfl, hF0⟩
-- NestedVectors$Tree.close x.tree a1 a2
set_option maxRecDepth 8000 in
theorem bp_2 (z : Value) (σ : sg_S) (a1 : Int) (a2 : Int) : wx z 1 206 0 [(0, .inr (.inr (.ref 2))), (1, .inl (a1)), (2, .inl (a2))] [] σ (fun v σ' => v = none ∧ sg_F [11, 12] σ σ') := by
  have hF0 := sg_F_r [11, 12] σ
  refine wk_b tt_206 4 (pc' := 6) (ls' := [(0, .inr (.inr (.ref 2))), (1, .inl (a1)), (2, .inl (a2))]) (st' := [.inl (a2), .inl (a1), .inr (.inr (.ref 11))]) (σ' := σ) rfl ?_
  refine wk_callp tt_206 rfl rfl rfl rfl rfl tt_21 rfl (by decide) (pt_i z σ 11 200 (a1) (a2) rfl (by decide)) ?_
  have hF4 : sg_F [11, 12] σ (sx_put σ 11 200 (sg_n (a1)) (a2)) := sg_F_p hF0 rfl _ _ _
  generalize (sx_put σ 11 200 (sg_n (a1)) (a2)) = σ5 at hF4 ⊢
  refine wk_b tt_206 7 (pc' := 20) (ls' := [(0, .inr (.inr (.ref 2))), (1, .inl (a1)), (2, .inl (a2))]) (st' := [.inl (((sg_g σ5 2 16) - 1)), .inl (a1), .inr (.inr (.ref 12))]) (σ' := σ5) rfl ?_
  refine wk_callp tt_206 rfl rfl rfl rfl rfl tt_21 rfl (by decide) (pt_i z σ5 12 200 (a1) (((sg_g σ5 2 16) - 1)) rfl (by decide)) ?_
  have hF9 : sg_F [11, 12] σ (sx_put σ5 12 200 (sg_n (a1)) (((sg_g σ5 2 16) - 1))) := sg_F_p hF4 rfl _ _ _
  generalize (sx_put σ5 12 200 (sg_n (a1)) (((sg_g σ5 2 16) - 1))) = σ10 at hF9 ⊢
  exact wk_rV tt_206 rfl rfl ⟨rfl, hF9⟩
-- NestedVectors$Parser.both x.parser a1 a2 a3
set_option maxRecDepth 8000 in
theorem bp_3 (z : Value) (σ : sg_S) (a1 : Int) (a2 : Int) (a3 : Int) : wx z 2 168 0 [(0, .inr (.inr (.ref 35))), (1, .inl (a1)), (2, .inl (a2)), (3, .inl (a3))] [] σ (fun v σ' => (∃ q, v = some (.inl q)) ∧ sg_F [7, 8, 9, 10, 11, 12] σ σ') := by
  have hF0 := sg_F_r [7, 8, 9, 10, 11, 12] σ
  refine wk_b tt_168 4 (pc' := 6) (ls' := [(0, .inr (.inr (.ref 35))), (1, .inl (a1)), (2, .inl (a2)), (3, .inl (a3))]) (st' := [.inl (a2), .inl (a1), .inr (.inr (.ref 2))]) (σ' := σ) rfl ?_
  refine wk_call tt_168 rfl rfl rfl rfl rfl tt_205 rfl (by decide) (bp_1 z σ (a1) (a2)) (fun w1 σ2 hq3 => ?_)
  obtain ⟨rfl, hF4⟩ := hq3
  have hF5 := sg_F_t hF0 (sg_F_m (L := [7, 8, 9, 10, 11, 12]) hF4 rfl)
  refine wk_b tt_168 4 (pc' := 15) (ls' := [(0, .inr (.inr (.ref 35))), (1, .inl (a1)), (2, .inl (a2)), (3, .inl (a3))]) (st' := [.inl (a3), .inl (a1), .inr (.inr (.ref 2))]) (σ' := σ2) rfl ?_
  refine wk_call tt_168 rfl rfl rfl rfl rfl tt_205 rfl (by decide) (bp_1 z σ2 (a1) (a3)) (fun w6 σ7 hq8 => ?_)
  obtain ⟨rfl, hF9⟩ := hq8
  have hF10 := sg_F_t hF5 (sg_F_m (L := [7, 8, 9, 10, 11, 12]) hF9 rfl)
  refine wk_b tt_168 7 (pc' := 31) (ls' := [(0, .inr (.inr (.ref 35))), (1, .inl (a1)), (2, .inl (a2)), (3, .inl (a3))]) (st' := [.inl (a2), .inr (.inr (.ref 11)), .inl (a1), .inr (.inr (.ref 2))]) (σ' := σ7) rfl ?_
  refine wk_callp tt_168 rfl rfl rfl rfl rfl tt_5 rfl (by decide) (at_i z σ7 11 200 (a2) rfl (by decide)) ?_
  generalize sx_at σ7 11 200 (sg_n (a2)) = q14
  refine wk_call tt_168 rfl rfl rfl rfl rfl tt_206 rfl (by decide) (bp_2 z σ7 (a1) (q14)) (fun w15 σ16 hq17 => ?_)
  obtain ⟨rfl, hF18⟩ := hq17
  have hF19 := sg_F_t hF10 (sg_F_m (L := [7, 8, 9, 10, 11, 12]) hF18 rfl)
  refine wk_b tt_168 1 (pc' := 38) (ls' := [(0, .inr (.inr (.ref 35))), (1, .inl (a1)), (2, .inl (a2)), (3, .inl (a3))]) (st' := [.inl (a1)]) (σ' := σ16) rfl ?_
  exact wk_rI tt_168 rfl rfl ⟨⟨_, rfl⟩, hF19⟩
-- NestedVectors$Parser.expect
set_option maxRecDepth 8000 in
theorem pj_exp (z : Value) (σ : sg_S) (a1 : Int) (hj : jm σ) (hne : ¬ a1 = 260 ∧ sg_R a1) : wx z 2 173 0 [(0, .inr (.inr (.ref 35))), (1, .inl (a1))] [] σ (fun v σ' => v = none ∧ sg_F [4035, 5036] σ σ' ∧ jm σ') := by
  refine wk_b tt_173 4 (pc' := 8) (ls' := [(0, .inr (.inr (.ref 35))), (1, .inl (a1))]) (st' := [.inl (a1), .inl ((sg_g σ 36 4))]) (σ' := σ) rfl ?_
  rw [show (sg_g σ 36 4) = 260 from by rw [hj.1]]
  refine wk_if2 tt_173 (tgt := 18) rfl rfl (by decide) (by omega) (fun (h : 260 = a1) => absurd h (by omega)) (fun (h1 : ¬ 260 = a1) => ?_)
  refine wk_b tt_173 1 (pc' := 12) (ls' := [(0, .inr (.inr (.ref 35))), (1, .inl (a1))]) (st' := [.inr (.inr (.ref 35))]) (σ' := σ) rfl ?_
  refine wk_call tt_173 rfl rfl rfl rfl rfl tt_175 rfl (by decide) (px_failJ z σ hj) (fun w2 σ3 hq4 => ?_)
  obtain ⟨rfl, hF5, hj6⟩ := hq4
  refine wk_b tt_173 1 (pc' := 32) (ls' := [(0, .inr (.inr (.ref 35))), (1, .inl (a1))]) (st' := []) (σ' := σ3) rfl ?_
  refine wk_rV tt_173 rfl rfl ?_
  exact ⟨rfl, (sg_F_t (sg_F_r [4035, 5036] σ) (sg_F_m (L := [4035, 5036]) hF5 rfl)), hj6⟩
-- NestedVectors$Parser.create
set_option maxRecDepth 8000 in
theorem pj_crt (z : Value) (σ : sg_S) (hj : jm σ) : wx z 2 171 0 [(0, .inr (.inr (.ref 35)))] [] σ (fun v σ' => ∃ q, v = some (.inl q) ∧ sg_F [2, 3, 4, 5, 7, 8, 9, 10, 11, 12, 13, 14, 17, 4035, 5036] σ σ' ∧ jm σ') := by
  refine wk_b tt_171 4 (pc' := 10) (ls' := [(0, .inr (.inr (.ref 35)))]) (st' := [.inl (200), .inl ((sg_g σ 2 16))]) (σ' := σ) rfl ?_
  have r1 := sg_Rg σ 2 16
  refine wk_if2 tt_171 (tgt := 19) rfl rfl (by omega) (by decide) (fun (h2 : (sg_g σ 2 16) < 200) => ?_) (fun (h2 : 200 ≤ (sg_g σ 2 16)) => ?_)
  ·
    have h2_n : ¬ 200 ≤ (sg_g σ 2 16) := by omega
    refine wk_b tt_171 8 (pc' := 37) (ls' := [(0, .inr (.inr (.ref 35)))]) (st' := [.inl ((sg_g σ 36 5)), .inl ((sg_g σ 36 4)), .inr (.inr (.ref 2))]) (σ' := σ) rfl ?_
    rw [show (sg_g σ 36 4) = 260 from by rw [hj.1]]
    have r3 := sg_Rg σ 36 5
    refine wk_call tt_171 rfl rfl rfl rfl rfl tt_204 rfl (by decide) (bp_0 z σ (260) ((sg_g σ 36 5))) (fun w4 σ5 hq6 => ?_)
    obtain ⟨⟨q8, rfl⟩, hF7⟩ := hq6
    refine wk_b tt_171 8 (pc' := 56) (ls' := [(1, .inl (q8)), (0, .inr (.inr (.ref 35)))]) (st' := [.inl ((sg_g σ5 36 6)), .inl (q8), .inr (.inr (.ref 5))]) (σ' := σ5) rfl ?_
    have r9 := sg_Rg σ 36 6
    rw [show (sg_g σ5 36 6) = (sg_g σ 36 6) from by rw [sg_F_ga hF7 rfl]]
    refine wk_callp (v0 := none) (σ1 := (sx_put σ5 5 200 (sg_n (q8)) ((sg_g σ 36 6)))) tt_171 rfl rfl rfl rfl rfl tt_21 rfl (by decide) (pt_i z σ5 5 200 (q8) ((sg_g σ 36 6)) rfl (by decide)) ?_
    refine wk_b tt_171 7 (pc' := 74) (ls' := [(1, .inl (q8)), (0, .inr (.inr (.ref 35)))]) (st' := [.inr (.inl ((sg_gl (sx_put σ5 5 200 (sg_n (q8)) ((sg_g σ 36 6))) 36 7))), .inl (q8), .inr (.inr (.ref 17))]) (σ' := (sx_put σ5 5 200 (sg_n (q8)) ((sg_g σ 36 6)))) rfl ?_
    rw [show (sg_gl (sx_put σ5 5 200 (sg_n (q8)) ((sg_g σ 36 6))) 36 7) = (sg_gl σ 36 7) from by rw [sx_putx_c _ _ _ _ _ _ _ (by decide), sg_F_gal hF7 rfl]]
    refine wk_callp (v0 := none) (σ1 := (sx_putl (sx_put σ5 5 200 (sg_n (q8)) ((sg_g σ 36 6))) 17 200 (sg_n (q8)) ((sg_gl σ 36 7)))) tt_171 rfl rfl rfl rfl rfl tt_22 rfl (by decide) (pt_l z (sx_put σ5 5 200 (sg_n (q8)) ((sg_g σ 36 6))) 17 200 (q8) ((sg_gl σ 36 7)) rfl (by decide)) ?_
    refine wk_b tt_171 2 (pc' := 81) (ls' := [(1, .inl (q8)), (0, .inr (.inr (.ref 35)))]) (st' := [.inr (.inr (.ref 36))]) (σ' := (sx_putl (sx_put σ5 5 200 (sg_n (q8)) ((sg_g σ 36 6))) 17 200 (sg_n (q8)) ((sg_gl σ 36 7)))) rfl ?_
    refine wk_call tt_171 rfl rfl rfl rfl rfl tt_195 rfl (by decide) (px_advJ z (sx_putl (sx_put σ5 5 200 (sg_n (q8)) ((sg_g σ 36 6))) 17 200 (sg_n (q8)) ((sg_gl σ 36 7))) (jm_ag hj (ag_xpl (ag_xp (ag_t (tkq_F hF7 rfl) (ag_r _ _)) rfl _ _ _) rfl _ _ _))) (fun w10 σ11 hq12 => ?_)
    obtain ⟨rfl, hF13, hj14⟩ := hq12
    refine wk_b tt_171 1 (pc' := 85) (ls' := [(1, .inl (q8)), (0, .inr (.inr (.ref 35)))]) (st' := [.inl (q8)]) (σ' := σ11) rfl ?_
    refine wk_rI tt_171 rfl rfl ?_
    exact ⟨_, rfl, (sg_F_t (sg_F_pl (sg_F_p (sg_F_t (sg_F_r [2, 3, 4, 5, 7, 8, 9, 10, 11, 12, 13, 14, 17, 4035, 5036] σ) (sg_F_m (L := [2, 3, 4, 5, 7, 8, 9, 10, 11, 12, 13, 14, 17, 4035, 5036]) hF7 rfl)) rfl _ _ _) rfl _ _ _) (sg_F_m (L := [2, 3, 4, 5, 7, 8, 9, 10, 11, 12, 13, 14, 17, 4035, 5036]) hF13 rfl)), hj14⟩
  ·
    refine wk_b tt_171 1 (pc' := 14) (ls' := [(0, .inr (.inr (.ref 35)))]) (st' := [.inr (.inr (.ref 35))]) (σ' := σ) rfl ?_
    refine wk_call tt_171 rfl rfl rfl rfl rfl tt_175 rfl (by decide) (px_failJ z σ hj) (fun w15 σ16 hq17 => ?_)
    obtain ⟨rfl, hF18, hj19⟩ := hq17
    refine wk_b tt_171 1 (pc' := 18) (ls' := [(0, .inr (.inr (.ref 35)))]) (st' := [.inl ((-1))]) (σ' := σ16) rfl ?_
    refine wk_rI tt_171 rfl rfl ?_
    exact ⟨_, rfl, (sg_F_t (sg_F_r [2, 3, 4, 5, 7, 8, 9, 10, 11, 12, 13, 14, 17, 4035, 5036] σ) (sg_F_m (L := [2, 3, 4, 5, 7, 8, 9, 10, 11, 12, 13, 14, 17, 4035, 5036]) hF18 rfl)), hj19⟩
-- NestedVectors$Parser.isProduct
set_option maxRecDepth 8000 in
theorem px_isP (z : Value) (σ : sg_S) (a0 : Int) (ra : sg_R a0) : wx z 0 177 0 [(0, .inl (a0))] [] σ (fun v σ' => σ' = σ ∧ (v = some (.inl 1) ∧ (a0 = 42 ∨ a0 = 47 ∨ a0 = 37) ∨ v = some (.inl 0) ∧ ¬ (a0 = 42 ∨ a0 = 47 ∨ a0 = 37))) := by
  refine wk_b tt_177 2 (pc' := 3) (ls' := [(0, .inl (a0))]) (st' := [.inl (42), .inl (a0)]) (σ' := σ) rfl ?_
  refine wk_if2 tt_177 (tgt := 18) rfl rfl (by omega) (by decide) (fun (h1 : a0 = 42) => ?_) (fun (h1 : ¬ a0 = 42) => ?_)
  ·
    refine wk_b tt_177 2 (pc' := 23) (ls' := [(0, .inl (a0))]) (st' := [.inl (1)]) (σ' := σ) rfl ?_
    refine wk_rZ tt_177 rfl rfl (by decide) ?_
    first | exact ⟨rfl, Or.inl ⟨rfl, by omega⟩⟩ | exact ⟨rfl, Or.inr ⟨rfl, by omega⟩⟩
  ·
    refine wk_b tt_177 2 (pc' := 9) (ls' := [(0, .inl (a0))]) (st' := [.inl (47), .inl (a0)]) (σ' := σ) rfl ?_
    refine wk_if2 tt_177 (tgt := 18) rfl rfl (by omega) (by decide) (fun (h2 : a0 = 47) => ?_) (fun (h2 : ¬ a0 = 47) => ?_)
    ·
      refine wk_b tt_177 2 (pc' := 23) (ls' := [(0, .inl (a0))]) (st' := [.inl (1)]) (σ' := σ) rfl ?_
      refine wk_rZ tt_177 rfl rfl (by decide) ?_
      first | exact ⟨rfl, Or.inl ⟨rfl, by omega⟩⟩ | exact ⟨rfl, Or.inr ⟨rfl, by omega⟩⟩
    ·
      refine wk_b tt_177 2 (pc' := 15) (ls' := [(0, .inl (a0))]) (st' := [.inl (37), .inl (a0)]) (σ' := σ) rfl ?_
      refine wk_if2 tt_177 (tgt := 22) rfl rfl (by omega) (by decide) (fun (h3 : ¬ a0 = 37) => ?_) (fun (h3 : a0 = 37) => ?_)
      ·
        refine wk_b tt_177 1 (pc' := 23) (ls' := [(0, .inl (a0))]) (st' := [.inl (0)]) (σ' := σ) rfl ?_
        refine wk_rZ tt_177 rfl rfl (by decide) ?_
        first | exact ⟨rfl, Or.inl ⟨rfl, by omega⟩⟩ | exact ⟨rfl, Or.inr ⟨rfl, by omega⟩⟩
      ·
        refine wk_b tt_177 2 (pc' := 23) (ls' := [(0, .inl (a0))]) (st' := [.inl (1)]) (σ' := σ) rfl ?_
        refine wk_rZ tt_177 rfl rfl (by decide) ?_
        first | exact ⟨rfl, Or.inl ⟨rfl, by omega⟩⟩ | exact ⟨rfl, Or.inr ⟨rfl, by omega⟩⟩
-- NestedVectors$Parser.atom
set_option maxRecDepth 8000 in
theorem pj_atom (z : Value) (σ : sg_S) (a1 : Int) (hj : jm σ) : wx z 2 167 0 [(0, .inr (.inr (.ref 35))), (1, .inl (a1))] [] σ (fun v σ' => ∃ q, v = some (.inl q) ∧ sg_F [4035, 5036] σ σ' ∧ jm σ') := by
  refine wk_b tt_167 6 (pc' := 12) (ls' := [(2, .inl ((sg_g σ 36 4))), (0, .inr (.inr (.ref 35))), (1, .inl (a1))]) (st' := [.inl (257), .inl ((sg_g σ 36 4))]) (σ' := σ) rfl ?_
  rw [show (sg_g σ 36 4) = 260 from by rw [hj.1]]
  refine wk_if2 tt_167 (tgt := 20) rfl rfl (by decide) (by decide) (fun _ => ?_) (fun (h : 260 = 257) => absurd h (by decide))
  refine wk_b tt_167 2 (pc' := 24) (ls' := [(2, .inl (260)), (0, .inr (.inr (.ref 35))), (1, .inl (a1))]) (st' := [.inl (258), .inl (260)]) (σ' := σ) rfl ?_
  refine wk_if2 tt_167 (tgt := 41) rfl rfl (by decide) (by decide) (fun (h : 260 = 258) => absurd h (by decide)) (fun _ => ?_)
  refine wk_b tt_167 2 (pc' := 31) (ls' := [(2, .inl (260)), (0, .inr (.inr (.ref 35))), (1, .inl (a1))]) (st' := [.inl (267), .inl (260)]) (σ' := σ) rfl ?_
  refine wk_if2 tt_167 (tgt := 48) rfl rfl (by decide) (by decide) (fun _ => ?_) (fun (h : 267 ≤ 260) => absurd h (by decide))
  refine wk_b tt_167 2 (pc' := 51) (ls' := [(2, .inl (260)), (0, .inr (.inr (.ref 35))), (1, .inl (a1))]) (st' := [.inl (40), .inl (260)]) (σ' := σ) rfl ?_
  refine wk_if2 tt_167 (tgt := 85) rfl rfl (by decide) (by decide) (fun _ => ?_) (fun (h : 260 = 40) => absurd h (by decide))
  refine wk_b tt_167 2 (pc' := 88) (ls' := [(2, .inl (260)), (0, .inr (.inr (.ref 35))), (1, .inl (a1))]) (st' := [.inl (91), .inl (260)]) (σ' := σ) rfl ?_
  refine wk_if2 tt_167 (tgt := 105) rfl rfl (by decide) (by decide) (fun _ => ?_) (fun (h : 260 = 91) => absurd h (by decide))
  refine wk_b tt_167 2 (pc' := 108) (ls' := [(2, .inl (260)), (0, .inr (.inr (.ref 35))), (1, .inl (a1))]) (st' := [.inl (123), .inl (260)]) (σ' := σ) rfl ?_
  refine wk_if2 tt_167 (tgt := 125) rfl rfl (by decide) (by decide) (fun _ => ?_) (fun (h : 260 = 123) => absurd h (by decide))
  refine wk_b tt_167 1 (pc' := 126) (ls' := [(2, .inl (260)), (0, .inr (.inr (.ref 35))), (1, .inl (a1))]) (st' := [.inr (.inr (.ref 35))]) (σ' := σ) rfl ?_
  refine wk_call tt_167 rfl rfl rfl rfl rfl tt_175 rfl (by decide) (px_failJ z σ hj) (fun w7 σ8 hq9 => ?_)
  obtain ⟨rfl, hF10, hj11⟩ := hq9
  refine wk_b tt_167 1 (pc' := 130) (ls' := [(2, .inl (260)), (0, .inr (.inr (.ref 35))), (1, .inl (a1))]) (st' := [.inl ((-1))]) (σ' := σ8) rfl ?_
  refine wk_rI tt_167 rfl rfl ?_
  exact ⟨_, rfl, (sg_F_t (sg_F_r [4035, 5036] σ) (sg_F_m (L := [4035, 5036]) hF10 rfl)), hj11⟩
-- NestedVectors$Parser.item
set_option maxRecDepth 8000 in
theorem pj_item (z : Value) (σ : sg_S) (a1 : Int) (hj : jm σ) : wx z 3 178 0 [(0, .inr (.inr (.ref 35))), (1, .inl (a1))] [] σ (fun v σ' => ∃ q, v = some (.inl q) ∧ sg_F [4035, 5036] σ σ' ∧ jm σ') := by
  refine wk_b tt_178 2 (pc' := 2) (ls' := [(0, .inr (.inr (.ref 35))), (1, .inl (a1))]) (st' := [.inl (a1), .inr (.inr (.ref 35))]) (σ' := σ) rfl ?_
  refine wk_call tt_178 rfl rfl rfl rfl rfl tt_167 rfl (by decide) (pj_atom z σ (a1) hj) (fun w1 σ2 hq3 => ?_)
  obtain ⟨q6, rfl, hF4, hj5⟩ := hq3
  refine wk_b tt_178 3 (pc' := 8) (ls' := [(3, .inl (0)), (2, .inl (q6)), (0, .inr (.inr (.ref 35))), (1, .inl (a1))]) (st' := []) (σ' := σ2) rfl ?_
  refine wk_b tt_178 2 (pc' := 12) (ls' := [(3, .inl (0)), (2, .inl (q6)), (0, .inr (.inr (.ref 35))), (1, .inl (a1))]) (st' := [.inl (200), .inl (0)]) (σ' := σ2) rfl ?_
  refine wk_if2 tt_178 (tgt := 68) rfl rfl (by decide) (by decide) (fun (h : 200 < 0) => absurd h (by decide)) (fun _ => ?_)
  refine wk_b tt_178 4 (pc' := 24) (ls' := [(3, .inl (0)), (2, .inl (q6)), (0, .inr (.inr (.ref 35))), (1, .inl (a1))]) (st' := [.inl (91), .inl ((sg_g σ2 36 4))]) (σ' := σ2) rfl ?_
  rw [show (sg_g σ2 36 4) = 260 from by rw [hj5.1]]
  refine wk_if2 tt_178 (tgt := 68) rfl rfl (by decide) (by decide) (fun _ => ?_) (fun (h : 260 = 91) => absurd h (by decide))
  refine wk_b tt_178 1 (pc' := 69) (ls' := [(3, .inl (0)), (2, .inl (q6)), (0, .inr (.inr (.ref 35))), (1, .inl (a1))]) (st' := [.inl (q6)]) (σ' := σ2) rfl ?_
  refine wk_rI tt_178 rfl rfl ?_
  exact ⟨_, rfl, (sg_F_t (sg_F_r [4035, 5036] σ) (sg_F_m (L := [4035, 5036]) hF4 rfl)), hj5⟩
-- NestedVectors$Parser.unary
set_option maxRecDepth 8000 in
theorem pj_unary (z : Value) (σ : sg_S) (a1 : Int) (hj : jm σ) : wx z 4 189 0 [(0, .inr (.inr (.ref 35))), (1, .inl (a1))] [] σ (fun v σ' => ∃ q, v = some (.inl q) ∧ sg_F [4035, 5036] σ σ' ∧ jm σ') := by
  refine wk_b tt_189 4 (pc' := 9) (ls' := [(0, .inr (.inr (.ref 35))), (1, .inl (a1))]) (st' := [.inl (35), .inl ((sg_g σ 36 4))]) (σ' := σ) rfl ?_
  rw [show (sg_g σ 36 4) = 260 from by rw [hj.1]]
  refine wk_if2 tt_189 (tgt := 20) rfl rfl (by decide) (by decide) (fun _ => ?_) (fun (h : 260 = 35) => absurd h (by decide))
  refine wk_b tt_189 2 (pc' := 22) (ls' := [(0, .inr (.inr (.ref 35))), (1, .inl (a1))]) (st' := [.inl (a1), .inr (.inr (.ref 35))]) (σ' := σ) rfl ?_
  refine wk_call tt_189 rfl rfl rfl rfl rfl tt_178 rfl (by decide) (pj_item z σ (a1) hj) (fun w2 σ3 hq4 => ?_)
  obtain ⟨q7, rfl, hF5, hj6⟩ := hq4
  refine wk_rI tt_189 rfl rfl ?_
  exact ⟨_, rfl, (sg_F_t (sg_F_r [4035, 5036] σ) (sg_F_m (L := [4035, 5036]) hF5 rfl)), hj6⟩
-- NestedVectors$Parser.product
set_option maxRecDepth 8000 in
theorem pj_product (z : Value) (σ : sg_S) (a1 : Int) (hj : jm σ) : wx z 5 184 0 [(0, .inr (.inr (.ref 35))), (1, .inl (a1))] [] σ (fun v σ' => ∃ q, v = some (.inl q) ∧ sg_F [4035, 5036] σ σ' ∧ jm σ') := by
  refine wk_b tt_184 2 (pc' := 2) (ls' := [(0, .inr (.inr (.ref 35))), (1, .inl (a1))]) (st' := [.inl (a1), .inr (.inr (.ref 35))]) (σ' := σ) rfl ?_
  refine wk_call tt_184 rfl rfl rfl rfl rfl tt_189 rfl (by decide) (pj_unary z σ (a1) hj) (fun w1 σ2 hq3 => ?_)
  obtain ⟨q6, rfl, hF4, hj5⟩ := hq3
  refine wk_b tt_184 3 (pc' := 8) (ls' := [(3, .inl (0)), (2, .inl (q6)), (0, .inr (.inr (.ref 35))), (1, .inl (a1))]) (st' := []) (σ' := σ2) rfl ?_
  refine wk_b tt_184 2 (pc' := 12) (ls' := [(3, .inl (0)), (2, .inl (q6)), (0, .inr (.inr (.ref 35))), (1, .inl (a1))]) (st' := [.inl (200), .inl (0)]) (σ' := σ2) rfl ?_
  refine wk_if2 tt_184 (tgt := 53) rfl rfl (by decide) (by decide) (fun (h : 200 < 0) => absurd h (by decide)) (fun _ => ?_)
  refine wk_b tt_184 3 (pc' := 22) (ls' := [(3, .inl (0)), (2, .inl (q6)), (0, .inr (.inr (.ref 35))), (1, .inl (a1))]) (st' := [.inl ((sg_g σ2 36 4))]) (σ' := σ2) rfl ?_
  rw [show (sg_g σ2 36 4) = 260 from by rw [hj5.1]]
  refine wk_callb tt_184 rfl rfl rfl rfl rfl tt_177 rfl (by decide) (px_isP z σ2 (260) (by omega)) (fun (h : 260 = 42 ∨ 260 = 47 ∨ 260 = 37) => absurd h (by decide)) (fun (h : ¬ (260 = 42 ∨ 260 = 47 ∨ 260 = 37)) => ?_)
  refine wk_if tt_184 (tgt := 53) rfl rfl (by decide) (fun _ => ?_) (fun (h : ¬ 0 = 0) => absurd h (by decide))
  refine wk_b tt_184 1 (pc' := 54) (ls' := [(3, .inl (0)), (2, .inl (q6)), (0, .inr (.inr (.ref 35))), (1, .inl (a1))]) (st' := [.inl (q6)]) (σ' := σ2) rfl ?_
  refine wk_rI tt_184 rfl rfl ?_
  exact ⟨_, rfl, (sg_F_t (sg_F_r [4035, 5036] σ) (sg_F_m (L := [4035, 5036]) hF4 rfl)), hj5⟩
-- NestedVectors$Parser.sum
set_option maxRecDepth 8000 in
theorem pj_sum (z : Value) (σ : sg_S) (a1 : Int) (hj : jm σ) : wx z 6 186 0 [(0, .inr (.inr (.ref 35))), (1, .inl (a1))] [] σ (fun v σ' => ∃ q, v = some (.inl q) ∧ sg_F [4035, 5036] σ σ' ∧ jm σ') := by
  refine wk_b tt_186 2 (pc' := 2) (ls' := [(0, .inr (.inr (.ref 35))), (1, .inl (a1))]) (st' := [.inl (a1), .inr (.inr (.ref 35))]) (σ' := σ) rfl ?_
  refine wk_call tt_186 rfl rfl rfl rfl rfl tt_184 rfl (by decide) (pj_product z σ (a1) hj) (fun w1 σ2 hq3 => ?_)
  obtain ⟨q6, rfl, hF4, hj5⟩ := hq3
  refine wk_b tt_186 3 (pc' := 8) (ls' := [(3, .inl (0)), (2, .inl (q6)), (0, .inr (.inr (.ref 35))), (1, .inl (a1))]) (st' := []) (σ' := σ2) rfl ?_
  refine wk_b tt_186 2 (pc' := 12) (ls' := [(3, .inl (0)), (2, .inl (q6)), (0, .inr (.inr (.ref 35))), (1, .inl (a1))]) (st' := [.inl (200), .inl (0)]) (σ' := σ2) rfl ?_
  refine wk_if2 tt_186 (tgt := 64) rfl rfl (by decide) (by decide) (fun (h : 200 < 0) => absurd h (by decide)) (fun _ => ?_)
  refine wk_b tt_186 4 (pc' := 24) (ls' := [(3, .inl (0)), (2, .inl (q6)), (0, .inr (.inr (.ref 35))), (1, .inl (a1))]) (st' := [.inl (43), .inl ((sg_g σ2 36 4))]) (σ' := σ2) rfl ?_
  rw [show (sg_g σ2 36 4) = 260 from by rw [hj5.1]]
  refine wk_if2 tt_186 (tgt := 39) rfl rfl (by decide) (by decide) (fun (h : 260 = 43) => absurd h (by decide)) (fun _ => ?_)
  refine wk_b tt_186 4 (pc' := 36) (ls' := [(3, .inl (0)), (2, .inl (q6)), (0, .inr (.inr (.ref 35))), (1, .inl (a1))]) (st' := [.inl (45), .inl ((sg_g σ2 36 4))]) (σ' := σ2) rfl ?_
  rw [show (sg_g σ2 36 4) = 260 from by rw [hj5.1]]
  refine wk_if2 tt_186 (tgt := 64) rfl rfl (by decide) (by decide) (fun _ => ?_) (fun (h : 260 = 45) => absurd h (by decide))
  refine wk_b tt_186 1 (pc' := 65) (ls' := [(3, .inl (0)), (2, .inl (q6)), (0, .inr (.inr (.ref 35))), (1, .inl (a1))]) (st' := [.inl (q6)]) (σ' := σ2) rfl ?_
  refine wk_rI tt_186 rfl rfl ?_
  exact ⟨_, rfl, (sg_F_t (sg_F_r [4035, 5036] σ) (sg_F_m (L := [4035, 5036]) hF4 rfl)), hj5⟩
-- NestedVectors$Parser.comparison
set_option maxRecDepth 8000 in
theorem pj_comparison (z : Value) (σ : sg_S) (a1 : Int) (hj : jm σ) : wx z 7 170 0 [(0, .inr (.inr (.ref 35))), (1, .inl (a1))] [] σ (fun v σ' => ∃ q, v = some (.inl q) ∧ sg_F [4035, 5036] σ σ' ∧ jm σ') := by
  refine wk_b tt_170 2 (pc' := 2) (ls' := [(0, .inr (.inr (.ref 35))), (1, .inl (a1))]) (st' := [.inl (a1), .inr (.inr (.ref 35))]) (σ' := σ) rfl ?_
  refine wk_call tt_170 rfl rfl rfl rfl rfl tt_186 rfl (by decide) (pj_sum z σ (a1) hj) (fun w1 σ2 hq3 => ?_)
  obtain ⟨q6, rfl, hF4, hj5⟩ := hq3
  refine wk_b tt_170 5 (pc' := 15) (ls' := [(2, .inl (q6)), (0, .inr (.inr (.ref 35))), (1, .inl (a1))]) (st' := [.inl (60), .inl ((sg_g σ2 36 4))]) (σ' := σ2) rfl ?_
  rw [show (sg_g σ2 36 4) = 260 from by rw [hj5.1]]
  refine wk_if2 tt_170 (tgt := 32) rfl rfl (by decide) (by decide) (fun (h : 260 = 60) => absurd h (by decide)) (fun _ => ?_)
  refine wk_b tt_170 4 (pc' := 27) (ls' := [(2, .inl (q6)), (0, .inr (.inr (.ref 35))), (1, .inl (a1))]) (st' := [.inl (61), .inl ((sg_g σ2 36 4))]) (σ' := σ2) rfl ?_
  rw [show (sg_g σ2 36 4) = 260 from by rw [hj5.1]]
  refine wk_if2 tt_170 (tgt := 32) rfl rfl (by decide) (by decide) (fun (h : 260 = 61) => absurd h (by decide)) (fun _ => ?_)
  refine wk_b tt_170 1 (pc' := 31) (ls' := [(2, .inl (q6)), (0, .inr (.inr (.ref 35))), (1, .inl (a1))]) (st' := [.inl (q6)]) (σ' := σ2) rfl ?_
  refine wk_rI tt_170 rfl rfl ?_
  exact ⟨_, rfl, (sg_F_t (sg_F_r [4035, 5036] σ) (sg_F_m (L := [4035, 5036]) hF4 rfl)), hj5⟩
-- NestedVectors$Parser.expression
set_option maxRecDepth 8000 in
theorem pj_expression (z : Value) (σ : sg_S) (a1 : Int) (hj : jm σ) : wx z 8 174 0 [(0, .inr (.inr (.ref 35))), (1, .inl (a1))] [] σ (fun v σ' => ∃ q, v = some (.inl q) ∧ sg_F [4035, 5036] σ σ' ∧ jm σ') := by
  refine wk_b tt_174 4 (pc' := 10) (ls' := [(0, .inr (.inr (.ref 35))), (1, .inl (a1))]) (st' := [.inl (262), .inl ((sg_g σ 36 4))]) (σ' := σ) rfl ?_
  rw [show (sg_g σ 36 4) = 260 from by rw [hj.1]]
  refine wk_if2 tt_174 (tgt := 27) rfl rfl (by decide) (by decide) (fun _ => ?_) (fun (h : 260 = 262) => absurd h (by decide))
  refine wk_b tt_174 4 (pc' := 37) (ls' := [(0, .inr (.inr (.ref 35))), (1, .inl (a1))]) (st' := [.inl (264), .inl ((sg_g σ 36 4))]) (σ' := σ) rfl ?_
  rw [show (sg_g σ 36 4) = 260 from by rw [hj.1]]
  refine wk_if2 tt_174 (tgt := 54) rfl rfl (by decide) (by decide) (fun _ => ?_) (fun (h : 260 = 264) => absurd h (by decide))
  refine wk_b tt_174 2 (pc' := 56) (ls' := [(0, .inr (.inr (.ref 35))), (1, .inl (a1))]) (st' := [.inl (a1), .inr (.inr (.ref 35))]) (σ' := σ) rfl ?_
  refine wk_call tt_174 rfl rfl rfl rfl rfl tt_170 rfl (by decide) (pj_comparison z σ (a1) hj) (fun w3 σ4 hq5 => ?_)
  obtain ⟨q8, rfl, hF6, hj7⟩ := hq5
  refine wk_rI tt_174 rfl rfl ?_
  exact ⟨_, rfl, (sg_F_t (sg_F_r [4035, 5036] σ) (sg_F_m (L := [4035, 5036]) hF6 rfl)), hj7⟩
-- NestedVectors$Parser.list
set_option maxRecDepth 8000 in
theorem pj_list (z : Value) (σ : sg_S) (a1 : Int) (a2 : Int) (hj : jm σ) : wx z 9 180 0 [(0, .inr (.inr (.ref 35))), (1, .inl (a1)), (2, .inl (a2))] [] σ (fun v σ' => v = none ∧ sg_F [7, 8, 9, 10, 4035, 5036] σ σ' ∧ jm σ') := by
  refine wk_b tt_180 2 (pc' := 2) (ls' := [(3, .inl (0)), (0, .inr (.inr (.ref 35))), (1, .inl (a1)), (2, .inl (a2))]) (st' := []) (σ' := σ) rfl ?_
  refine wk_b tt_180 2 (pc' := 6) (ls' := [(3, .inl (0)), (0, .inr (.inr (.ref 35))), (1, .inl (a1)), (2, .inl (a2))]) (st' := [.inl (200), .inl (0)]) (σ' := σ) rfl ?_
  refine wk_if2 tt_180 (tgt := 48) rfl rfl (by decide) (by decide) (fun (h : 200 < 0) => absurd h (by decide)) (fun _ => ?_)
  refine wk_b tt_180 5 (pc' := 16) (ls' := [(3, .inl (0)), (0, .inr (.inr (.ref 35))), (1, .inl (a1)), (2, .inl (a2))]) (st' := [.inl (a2), .inr (.inr (.ref 35)), .inl (a1), .inr (.inr (.ref 2))]) (σ' := σ) rfl ?_
  refine wk_call tt_180 rfl rfl rfl rfl rfl tt_174 rfl (by decide) (pj_expression z σ (a2) hj) (fun w2 σ3 hq4 => ?_)
  obtain ⟨q7, rfl, hF5, hj6⟩ := hq4
  refine wk_call tt_180 rfl rfl rfl rfl rfl tt_205 rfl (by decide) (bp_1 z σ3 (a1) (q7)) (fun w8 σ9 hq10 => ?_)
  obtain ⟨rfl, hF11⟩ := hq10
  refine wk_b tt_180 4 (pc' := 31) (ls' := [(3, .inl (0)), (0, .inr (.inr (.ref 35))), (1, .inl (a1)), (2, .inl (a2))]) (st' := [.inl (44), .inl ((sg_g σ9 36 4))]) (σ' := σ9) rfl ?_
  rw [show (sg_g σ9 36 4) = 260 from by rw [sg_F_ga hF11 rfl, hj6.1]]
  refine wk_if2 tt_180 (tgt := 35) rfl rfl (by decide) (by decide) (fun (h : 260 = 44) => absurd h (by decide)) (fun _ => ?_)
  refine wk_rV tt_180 rfl rfl ?_
  exact ⟨rfl, (sg_F_t (sg_F_t (sg_F_r [7, 8, 9, 10, 4035, 5036] σ) (sg_F_m (L := [7, 8, 9, 10, 4035, 5036]) hF5 rfl)) (sg_F_m (L := [7, 8, 9, 10, 4035, 5036]) hF11 rfl)), (jm_ag hj6 (ag_t (tkq_F hF11 rfl) (ag_r _ _)))⟩
-- NestedVectors$Parser.generators
set_option maxRecDepth 8000 in
theorem pj_gens (z : Value) (σ : sg_S) (a1 : Int) (a2 : Int) (hj : jm σ) : wx z 2 176 0 [(0, .inr (.inr (.ref 35))), (1, .inl (a1)), (2, .inl (a2))] [] σ (fun v σ' => v = none ∧ sg_F [4035, 5036] σ σ' ∧ jm σ') := by
  refine wk_b tt_176 2 (pc' := 2) (ls' := [(3, .inl (0)), (0, .inr (.inr (.ref 35))), (1, .inl (a1)), (2, .inl (a2))]) (st' := []) (σ' := σ) rfl ?_
  refine wk_b tt_176 2 (pc' := 4) (ls' := [(3, .inl (0)), (0, .inr (.inr (.ref 35))), (1, .inl (a1)), (2, .inl (a2))]) (st' := [.inl (4), .inl (0)]) (σ' := σ) rfl ?_
  refine wk_if2 tt_176 (tgt := 147) rfl rfl (by decide) (by decide) (fun (h : 4 < 0) => absurd h (by decide)) (fun _ => ?_)
  refine wk_b tt_176 4 (pc' := 17) (ls' := [(3, .inl (0)), (0, .inr (.inr (.ref 35))), (1, .inl (a1)), (2, .inl (a2))]) (st' := [.inl (258), .inl ((sg_g σ 36 4))]) (σ' := σ) rfl ?_
  rw [show (sg_g σ 36 4) = 260 from by rw [hj.1]]
  refine wk_if2 tt_176 (tgt := 25) rfl rfl (by decide) (by decide) (fun _ => ?_) (fun (h : 260 = 258) => absurd h (by decide))
  refine wk_b tt_176 1 (pc' := 26) (ls' := [(3, .inl (0)), (0, .inr (.inr (.ref 35))), (1, .inl (a1)), (2, .inl (a2))]) (st' := [.inr (.inr (.ref 35))]) (σ' := σ) rfl ?_
  refine wk_call tt_176 rfl rfl rfl rfl rfl tt_175 rfl (by decide) (px_failJ z σ hj) (fun w3 σ4 hq5 => ?_)
  obtain ⟨rfl, hF6, hj7⟩ := hq5
  refine wk_rV tt_176 rfl rfl ?_
  exact ⟨rfl, (sg_F_t (sg_F_r [4035, 5036] σ) (sg_F_m (L := [4035, 5036]) hF6 rfl)), hj7⟩
