/-! The end of a flat run of the class (3): it ends, and but for its cells all is as it was. -/
-- NestedVectors$Image.render x.flatRun.image a1
set_option maxRecDepth 8000 in
theorem bw_17 (z : Value) (σ : sg_S) (a1 : Int) (hp : sg_n a1 ≤ 3) : wx z 6 95 0 [(0, .inr (.inr (.ref 65))), (1, .inl (a1))] [] σ (fun v σ' => v = none ∧ sg_F [65, 66, 67] σ σ') := by
  have hF0 := sg_F_r [65, 66, 67] σ
  refine wk_b tt_95 8 (pc' := 12) (ls' := [(0, .inr (.inr (.ref 65))), (1, .inl (a1))]) (st' := [.inl (a1), .inr (.inr (.ref 65))]) (σ' := (sg_w (sg_w σ 65 3 (0)) 65 5 (0))) rfl ?_
  have hF1 : sg_F [65, 66, 67] σ (sg_w (sg_w σ 65 3 (0)) 65 5 (0)) := (sg_F_w (sg_F_w hF0 rfl _) rfl _)
  generalize (sg_w (sg_w σ 65 3 (0)) 65 5 (0)) = σ2 at hF1 ⊢
  refine wk_call tt_95 rfl rfl rfl rfl rfl tt_97 rfl (by decide) (bw_16 z σ2 (a1) hp) (fun w3 σ4 hq5 => ?_)
  obtain ⟨rfl, hF6⟩ := hq5
  have hF7 := sg_F_t hF1 (sg_F_m (L := [65, 66, 67]) hF6 rfl)
  exact wk_rV tt_95 rfl rfl ⟨rfl, hF7⟩
-- NestedVectors$Machine.conclude x.flatRun a1
set_option maxRecDepth 8000 in
theorem bw_18 (z : Value) (σ : sg_S) (a1 : Int) (hp : sg_n a1 ≤ 3) : wx z 7 118 0 [(0, .inr (.inr (.ref 61))), (1, .inl (a1))] [] σ (fun v σ' => v = none ∧ sg_F [61, 65, 66, 67, 68] σ σ') := by
  have hF0 := sg_F_r [61, 65, 66, 67, 68] σ
  refine wk_b tt_118 5 (pc' := 9) (ls' := [(0, .inr (.inr (.ref 61))), (1, .inl (a1))]) (st' := [.inr (.inr (.ref 65))]) (σ' := (sg_w σ 61 11 (1))) rfl ?_
  have hF1 : sg_F [61, 65, 66, 67, 68] σ (sg_w σ 61 11 (1)) := (sg_F_w hF0 rfl _)
  generalize (sg_w σ 61 11 (1)) = σ2 at hF1 ⊢
  refine wk_call tt_118 rfl rfl rfl rfl rfl tt_92 rfl (by decide) (bw_0 z σ2) (fun w3 σ4 hq5 => ?_)
  obtain ⟨rfl, hF6⟩ := hq5
  have hF7 := sg_F_t hF1 (sg_F_m (L := [61, 65, 66, 67, 68]) hF6 rfl)
  refine wk_b tt_118 2 (pc' := 16) (ls' := [(0, .inr (.inr (.ref 61))), (1, .inl (a1))]) (st' := [.inl ((sg_g σ4 61 10))]) (σ' := σ4) rfl ?_
  refine wk_ifb tt_118 (tgt := 36) rfl rfl ?_ ?_
  ·
    exact wk_rV tt_118 rfl rfl ⟨rfl, hF7⟩
  ·
    refine wk_b tt_118 2 (pc' := 21) (ls' := [(0, .inr (.inr (.ref 61))), (1, .inl (a1))]) (st' := [.inr (.inr (.ref 61)), .inr (.inr (.ref 61))]) (σ' := σ4) rfl ?_
    refine wk_call tt_118 rfl rfl rfl rfl rfl tt_124 rfl (by decide) (bw_1 z σ4) (fun w9 σ10 hq11 => ?_)
    obtain ⟨⟨q13, rfl⟩, hF12⟩ := hq11
    have hF14 := sg_F_t hF7 (sg_F_m (L := [61, 65, 66, 67, 68]) hF12 rfl)
    refine wk_b tt_118 1 (pc' := 25) (ls' := [(0, .inr (.inr (.ref 61))), (1, .inl (a1))]) (st' := [.inl (a1), .inl (q13), .inr (.inr (.ref 61))]) (σ' := σ10) rfl ?_
    refine wk_call tt_118 rfl rfl rfl rfl rfl tt_61 rfl (by decide) (bw_10 z σ10 (q13) (a1) hp) (fun w15 σ16 hq17 => ?_)
    obtain ⟨rfl, hF18⟩ := hq17
    have hF19 := sg_F_t hF14 (sg_F_m (L := [61, 65, 66, 67, 68]) hF18 rfl)
    refine wk_b tt_118 3 (pc' := 33) (ls' := [(0, .inr (.inr (.ref 61))), (1, .inl (a1))]) (st' := [.inl (a1), .inr (.inr (.ref 65))]) (σ' := σ16) rfl ?_
    refine wk_call tt_118 rfl rfl rfl rfl rfl tt_95 rfl (by decide) (bw_17 z σ16 (a1) hp) (fun w20 σ21 hq22 => ?_)
    obtain ⟨rfl, hF23⟩ := hq22
    have hF24 := sg_F_t hF19 (sg_F_m (L := [61, 65, 66, 67, 68]) hF23 rfl)
    exact wk_rV tt_118 rfl rfl ⟨rfl, hF24⟩
