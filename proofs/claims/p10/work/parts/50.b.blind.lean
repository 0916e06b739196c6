/-! Methods of the nested run (1): they end, and but for their cells all is as it was. -/
-- NestedVectors$Image.render x.nestedRun.image a1
set_option maxRecDepth 8000 in
theorem bt_18 (z : Value) (σ : sg_S) (a1 : Int) (hp : sg_n a1 ≤ 3) : wx z 6 95 0 [(0, .inr (.inr (.ref 49))), (1, .inl (a1))] [] σ (fun v σ' => v = none ∧ sg_F [49, 50, 51] σ σ') := by
  have hF0 := sg_F_r [49, 50, 51] σ
  refine wk_b tt_95 8 (pc' := 12) (ls' := [(0, .inr (.inr (.ref 49))), (1, .inl (a1))]) (st' := [.inl (a1), .inr (.inr (.ref 49))]) (σ' := (sg_w (sg_w σ 49 3 (0)) 49 5 (0))) rfl ?_
  have hF1 : sg_F [49, 50, 51] σ (sg_w (sg_w σ 49 3 (0)) 49 5 (0)) := (sg_F_w (sg_F_w hF0 rfl _) rfl _)
  generalize (sg_w (sg_w σ 49 3 (0)) 49 5 (0)) = σ2 at hF1 ⊢
  refine wk_call tt_95 rfl rfl rfl rfl rfl tt_97 rfl (by decide) (bt_17 z σ2 (a1) hp) (fun w3 σ4 hq5 => ?_)
  obtain ⟨rfl, hF6⟩ := hq5
  have hF7 := sg_F_t hF1 (sg_F_m (L := [49, 50, 51]) hF6 rfl)
  exact wk_rV tt_95 rfl rfl ⟨rfl, hF7⟩
-- NestedVectors$Machine.conclude x.nestedRun a1
set_option maxRecDepth 8000 in
theorem bt_19 (z : Value) (σ : sg_S) (a1 : Int) (hp : sg_n a1 ≤ 3) : wx z 7 118 0 [(0, .inr (.inr (.ref 45))), (1, .inl (a1))] [] σ (fun v σ' => v = none ∧ sg_F [45, 49, 50, 51, 52] σ σ') := by
  have hF0 := sg_F_r [45, 49, 50, 51, 52] σ
  refine wk_b tt_118 5 (pc' := 9) (ls' := [(0, .inr (.inr (.ref 45))), (1, .inl (a1))]) (st' := [.inr (.inr (.ref 49))]) (σ' := (sg_w σ 45 11 (1))) rfl ?_
  have hF1 : sg_F [45, 49, 50, 51, 52] σ (sg_w σ 45 11 (1)) := (sg_F_w hF0 rfl _)
  generalize (sg_w σ 45 11 (1)) = σ2 at hF1 ⊢
  refine wk_call tt_118 rfl rfl rfl rfl rfl tt_92 rfl (by decide) (bt_2 z σ2) (fun w3 σ4 hq5 => ?_)
  obtain ⟨rfl, hF6⟩ := hq5
  have hF7 := sg_F_t hF1 (sg_F_m (L := [45, 49, 50, 51, 52]) hF6 rfl)
  refine wk_b tt_118 2 (pc' := 16) (ls' := [(0, .inr (.inr (.ref 45))), (1, .inl (a1))]) (st' := [.inl ((sg_g σ4 45 10))]) (σ' := σ4) rfl ?_
  refine wk_ifb tt_118 (tgt := 36) rfl rfl ?_ ?_
  ·
    exact wk_rV tt_118 rfl rfl ⟨rfl, hF7⟩
  ·
    refine wk_b tt_118 2 (pc' := 21) (ls' := [(0, .inr (.inr (.ref 45))), (1, .inl (a1))]) (st' := [.inr (.inr (.ref 45)), .inr (.inr (.ref 45))]) (σ' := σ4) rfl ?_
    refine wk_call tt_118 rfl rfl rfl rfl rfl tt_124 rfl (by decide) (bt_3 z σ4) (fun w9 σ10 hq11 => ?_)
    obtain ⟨⟨q13, rfl⟩, hF12⟩ := hq11
    have hF14 := sg_F_t hF7 (sg_F_m (L := [45, 49, 50, 51, 52]) hF12 rfl)
    refine wk_b tt_118 1 (pc' := 25) (ls' := [(0, .inr (.inr (.ref 45))), (1, .inl (a1))]) (st' := [.inl (a1), .inl (q13), .inr (.inr (.ref 45))]) (σ' := σ10) rfl ?_
    refine wk_call tt_118 rfl rfl rfl rfl rfl tt_139 rfl (by decide) (bt_11 z σ10 (q13) (a1) hp) (fun w15 σ16 hq17 => ?_)
    obtain ⟨rfl, hF18⟩ := hq17
    have hF19 := sg_F_t hF14 (sg_F_m (L := [45, 49, 50, 51, 52]) hF18 rfl)
    refine wk_b tt_118 3 (pc' := 33) (ls' := [(0, .inr (.inr (.ref 45))), (1, .inl (a1))]) (st' := [.inl (a1), .inr (.inr (.ref 49))]) (σ' := σ16) rfl ?_
    refine wk_call tt_118 rfl rfl rfl rfl rfl tt_95 rfl (by decide) (bt_18 z σ16 (a1) hp) (fun w20 σ21 hq22 => ?_)
    obtain ⟨rfl, hF23⟩ := hq22
    have hF24 := sg_F_t hF19 (sg_F_m (L := [45, 49, 50, 51, 52]) hF23 rfl)
    exact wk_rV tt_118 rfl rfl ⟨rfl, hF24⟩
-- NestedVectors$NestedRun.spend x.nestedRun a1
set_option maxRecDepth 8000 in
theorem bt_20 (z : Value) (σ : sg_S) (a1 : Int) : wx z 0 162 0 [(0, .inr (.inr (.ref 45))), (1, .inl (a1))] [] σ (fun v σ' => (∃ q, v = some (.inl q) ∧ (q = 0 ∨ q = 1)) ∧ sg_F [45] σ σ') := by
  have hF0 := sg_F_r [45] σ
  refine wk_b tt_162 5 (pc' := 9) (ls' := [(0, .inr (.inr (.ref 45))), (1, .inl (a1))]) (st' := [.inl (3000), .inl (((sg_g σ 45 22) + a1))]) (σ' := σ) rfl ?_
  refine wk_if2b tt_162 (tgt := 20) rfl rfl ?_ ?_
  ·
    refine wk_b tt_162 7 (pc' := 31) (ls' := [(0, .inr (.inr (.ref 45))), (1, .inl (a1))]) (st' := [.inl (1)]) (σ' := (sg_w σ 45 22 (((sg_g σ 45 22) + a1)))) rfl ?_
    have hF2 : sg_F [45] σ (sg_w σ 45 22 (((sg_g σ 45 22) + a1))) := (sg_F_w hF0 rfl _)
    generalize (sg_w σ 45 22 (((sg_g σ 45 22) + a1))) = σ3 at hF2 ⊢
    exact wk_rZ tt_162 rfl rfl (by decide) ⟨⟨_, rfl, by decide⟩, hF2⟩
  ·
    refine wk_b tt_162 4 (pc' := 19) (ls' := [(0, .inr (.inr (.ref 45))), (1, .inl (a1))]) (st' := [.inl (0)]) (σ' := (sg_w σ 45 10 (7))) rfl ?_
    have hF4 : sg_F [45] σ (sg_w σ 45 10 (7)) := (sg_F_w hF0 rfl _)
    generalize (sg_w σ 45 10 (7)) = σ5 at hF4 ⊢
    exact wk_rZ tt_162 rfl rfl (by decide) ⟨⟨_, rfl, by decide⟩, hF4⟩
-- NestedVectors$NestedRun.begin x.nestedRun a1
set_option maxRecDepth 8000 in
theorem bt_21 (z : Value) (σ : sg_S) (a1 : Int) : wx z 1 132 0 [(0, .inr (.inr (.ref 45))), (1, .inl (a1))] [] σ (fun v σ' => v = none ∧ sg_F [45] σ σ') := by
  have hF0 := sg_F_r [45] σ
  refine wk_b tt_132 2 (pc' := 2) (ls' := [(0, .inr (.inr (.ref 45))), (1, .inl (a1))]) (st' := [.inl (1), .inr (.inr (.ref 45))]) (σ' := σ) rfl ?_
  refine wk_call tt_132 rfl rfl rfl rfl rfl tt_162 rfl (by decide) (bt_20 z σ (1)) (fun w1 σ2 hq3 => ?_)
  obtain ⟨⟨q5, rfl, hq5⟩, hF4⟩ := hq3
  have hF6 := sg_F_t hF0 (sg_F_m (L := [45]) hF4 rfl)
  refine wk_ifb tt_132 (tgt := 18) rfl rfl ?_ ?_
  ·
    exact wk_rV tt_132 rfl rfl ⟨rfl, hF6⟩
  ·
    refine wk_b tt_132 6 (pc' := 18) (ls' := [(0, .inr (.inr (.ref 45))), (1, .inl (a1))]) (st' := []) (σ' := (sg_w σ2 45 23 (((sg_g σ2 45 23) + 1)))) rfl ?_
    have hF8 : sg_F [45] σ (sg_w σ2 45 23 (((sg_g σ2 45 23) + 1))) := (sg_F_w hF6 rfl _)
    generalize (sg_w σ2 45 23 (((sg_g σ2 45 23) + 1))) = σ9 at hF8 ⊢
    exact wk_rV tt_132 rfl rfl ⟨rfl, hF8⟩
-- NestedVectors$Machine.push x.nestedRun a1
set_option maxRecDepth 8000 in
theorem bt_22 (z : Value) (σ : sg_S) (a1 : Int) : wx z 1 125 0 [(0, .inr (.inr (.ref 45))), (1, .inl (a1))] [] σ (fun v σ' => v = none ∧ sg_F [45, 48] σ σ') := by
  have hF0 := sg_F_r [45, 48] σ
  refine wk_b tt_125 5 (pc' := 9) (ls' := [(0, .inr (.inr (.ref 45))), (1, .inl (a1))]) (st' := [.inl (a1), .inl ((sg_g σ 45 7)), .inr (.inr (.ref 48))]) (σ' := σ) rfl ?_
  refine wk_callp tt_125 rfl rfl rfl rfl rfl tt_21 rfl (by decide) (pt_i z σ 48 3200 ((sg_g σ 45 7)) (a1) rfl (by decide)) ?_
  have hF4 : sg_F [45, 48] σ (sx_put σ 48 3200 (sg_n ((sg_g σ 45 7))) (a1)) := sg_F_p hF0 rfl _ _ _
  generalize (sx_put σ 48 3200 (sg_n ((sg_g σ 45 7))) (a1)) = σ5 at hF4 ⊢
  refine wk_b tt_125 6 (pc' := 22) (ls' := [(0, .inr (.inr (.ref 45))), (1, .inl (a1))]) (st' := []) (σ' := (sg_w σ5 45 7 (((sg_g σ5 45 7) + 1)))) rfl ?_
  have hF6 : sg_F [45, 48] σ (sg_w σ5 45 7 (((sg_g σ5 45 7) + 1))) := (sg_F_w hF4 rfl _)
  generalize (sg_w σ5 45 7 (((sg_g σ5 45 7) + 1))) = σ7 at hF6 ⊢
  exact wk_rV tt_125 rfl rfl ⟨rfl, hF6⟩
-- NestedVectors$NestedRun.constant x.nestedRun a1
set_option maxRecDepth 8000 in
theorem bt_23 (z : Value) (σ : sg_S) (a1 : Int) : wx z 2 135 0 [(0, .inr (.inr (.ref 45))), (1, .inl (a1))] [] σ (fun v σ' => v = none ∧ sg_F [45, 48] σ σ') := by
  have hF0 := sg_F_r [45, 48] σ
  refine wk_b tt_135 2 (pc' := 2) (ls' := [(0, .inr (.inr (.ref 45))), (1, .inl (a1))]) (st' := [.inl (a1), .inr (.inr (.ref 45))]) (σ' := σ) rfl ?_
  refine wk_call tt_135 rfl rfl rfl rfl rfl tt_125 rfl (by decide) (bt_22 z σ (a1)) (fun w1 σ2 hq3 => ?_)
  obtain ⟨rfl, hF4⟩ := hq3
  have hF5 := sg_F_t hF0 (sg_F_m (L := [45, 48]) hF4 rfl)
  exact wk_rV tt_135 rfl rfl ⟨rfl, hF5⟩
-- NestedVectors$NestedRun.gather x.nestedRun a1
set_option maxRecDepth 8000 in
theorem bt_24 (z : Value) (σ : sg_S) (a1 : Int) : wx z 1 143 0 [(0, .inr (.inr (.ref 45))), (1, .inl (a1))] [] σ (fun v σ' => v = none ∧ sg_F [45, 54] σ σ') := by
  have hF0 := sg_F_r [45, 54] σ
  refine wk_b tt_143 8 (pc' := 12) (ls' := [(2, .inl (0)), (0, .inr (.inr (.ref 45))), (1, .inl (a1))]) (st' := []) (σ' := (sg_w σ 45 7 (((sg_g σ 45 7) - a1)))) rfl ?_
  have hF1 : sg_F [45, 54] σ (sg_w σ 45 7 (((sg_g σ 45 7) - a1))) := (sg_F_w hF0 rfl _)
  generalize (sg_w σ 45 7 (((sg_g σ 45 7) - a1))) = σ2 at hF1 ⊢
  have ex6 : ∀ (σ4 : sg_S), sg_F [45, 54] σ σ4 → wx z 1 143 57 [] [] σ4 (fun v σ' => v = none ∧ sg_F [45, 54] σ σ') := by
    intro σ4 hF5
    exact wk_rV tt_143 rfl rfl ⟨rfl, hF5⟩
  have lp9 : ∀ (m8 : Nat) (σ4 : sg_S) (v3 : Int), sg_F [45, 54] σ σ4 → (sg_R v3) → (2147483647 - v3).toNat = m8 → wx z 1 143 12 [(0, .inr (.inr (.ref 45))), (1, .inl (a1)), (2, .inl (v3))] [] σ4 (fun v σ' => v = none ∧ sg_F [45, 54] σ σ') := by
    intro m8
    induction m8 using Nat.strongRecOn with
    | _ m8 ih7 =>
      intro σ4 v3 hF5 hR10 hm11
      have hR10_i := sg_id (z := v3) (by omega)
      refine wk_b tt_143 2 (pc' := 14) (ls' := [(0, .inr (.inr (.ref 45))), (1, .inl (a1)), (2, .inl (v3))]) (st' := [.inl (a1), .inl (v3)]) (σ' := σ4) rfl ?_
      refine wk_if2n tt_143 (tgt := 57) rfl rfl (fun h12 => ?_) (fun h12 => ?_)
      ·
        have h12_r := sg_Rn (a1)
        have h12_q := sg_Rn (v3)
        simp only [sg_c, sg_nc] at h12
        exact wk_ls [] rfl trivial (ex6 σ4 hF5)
      ·
        have h12_r := sg_Rn (a1)
        have h12_q := sg_Rn (v3)
        simp only [sg_c, sg_nc] at h12
        refine wk_b tt_143 10 (pc' := 35) (ls' := [(0, .inr (.inr (.ref 45))), (1, .inl (a1)), (2, .inl (v3))]) (st' := [.inl (((sg_g σ4 45 7) + v3)), .inr (.inr (.ref 48)), .inl ((sg_g σ4 45 21)), .inr (.inr (.ref 54))]) (σ' := σ4) rfl ?_
        refine wk_callp tt_143 rfl rfl rfl rfl rfl tt_5 rfl (by decide) (at_i z σ4 48 3200 (((sg_g σ4 45 7) + v3)) rfl (by decide)) ?_
        generalize sx_at σ4 48 3200 (sg_n (((sg_g σ4 45 7) + v3))) = q16
        refine wk_callp tt_143 rfl rfl rfl rfl rfl tt_21 rfl (by decide) (pt_i z σ4 54 200 ((sg_g σ4 45 21)) (q16) rfl (by decide)) ?_
        have hF20 : sg_F [45, 54] σ (sx_put σ4 54 200 (sg_n ((sg_g σ4 45 21))) (q16)) := sg_F_p hF5 rfl _ _ _
        generalize (sx_put σ4 54 200 (sg_n ((sg_g σ4 45 21))) (q16)) = σ21 at hF20 ⊢
        refine wk_b tt_143 8 (pc' := 12) (ls' := [(2, .inl ((v3 + 1))), (0, .inr (.inr (.ref 45))), (1, .inl (a1))]) (st' := []) (σ' := (sg_w σ21 45 21 (((sg_g σ21 45 21) + 1)))) rfl ?_
        have hF22 : sg_F [45, 54] σ (sg_w σ21 45 21 (((sg_g σ21 45 21) + 1))) := (sg_F_w hF20 rfl _)
        generalize (sg_w σ21 45 21 (((sg_g σ21 45 21) + 1))) = σ23 at hF22 ⊢
        refine wk_ls [(0, .inr (.inr (.ref 45))), (1, .inl (a1)), (2, .inl ((v3 + 1)))] rfl ⟨rfl, rfl, rfl, trivial⟩ (ih7 _ ?_ σ23 ((v3 + 1)) hF22 ?_ rfl)
        · omega
        · omega
  refine wk_ls [(0, .inr (.inr (.ref 45))), (1, .inl (a1)), (2, .inl (0))] rfl ⟨rfl, rfl, rfl, trivial⟩ ?_
  exact lp9 _ σ2 (0) hF1 (by omega) rfl
-- NestedVectors$NestedRun.keep x.nestedRun a1
set_option maxRecDepth 8000 in
theorem bt_25 (z : Value) (σ : sg_S) (a1 : Int) : wx z 1 147 0 [(0, .inr (.inr (.ref 45))), (1, .inl (a1))] [] σ (fun v σ' => v = none ∧ sg_F [45, 48, 53] σ σ') := by
  have hF0 := sg_F_r [45, 48, 53] σ
  refine wk_b tt_147 8 (pc' := 14) (ls' := [(2, .inl ((sg_g σ 45 20))), (0, .inr (.inr (.ref 45))), (1, .inl (a1))]) (st' := [.inl ((sg_g σ 45 21)), .inl ((sg_g σ 45 20)), .inr (.inr (.ref 53))]) (σ' := σ) rfl ?_
  refine wk_callp tt_147 rfl rfl rfl rfl rfl tt_21 rfl (by decide) (pt_i z σ 53 9003 ((sg_g σ 45 20)) ((sg_g σ 45 21)) rfl (by decide)) ?_
  have hF4 : sg_F [45, 48, 53] σ (sx_put σ 53 9003 (sg_n ((sg_g σ 45 20))) ((sg_g σ 45 21))) := sg_F_p hF0 rfl _ _ _
  generalize (sx_put σ 53 9003 (sg_n ((sg_g σ 45 20))) ((sg_g σ 45 21))) = σ5 at hF4 ⊢
  refine wk_b tt_147 6 (pc' := 25) (ls' := [(2, .inl ((sg_g σ 45 20))), (0, .inr (.inr (.ref 45))), (1, .inl (a1))]) (st' := [.inl (a1), .inl (((sg_g σ 45 20) + 1)), .inr (.inr (.ref 53))]) (σ' := σ5) rfl ?_
  refine wk_callp tt_147 rfl rfl rfl rfl rfl tt_21 rfl (by decide) (pt_i z σ5 53 9003 (((sg_g σ 45 20) + 1)) (a1) rfl (by decide)) ?_
  have hF9 : sg_F [45, 48, 53] σ (sx_put σ5 53 9003 (sg_n (((sg_g σ 45 20) + 1))) (a1)) := sg_F_p hF4 rfl _ _ _
  generalize (sx_put σ5 53 9003 (sg_n (((sg_g σ 45 20) + 1))) (a1)) = σ10 at hF9 ⊢
  refine wk_b tt_147 2 (pc' := 30) (ls' := [(3, .inl (0)), (2, .inl ((sg_g σ 45 20))), (0, .inr (.inr (.ref 45))), (1, .inl (a1))]) (st' := []) (σ' := σ10) rfl ?_
  have ex14 : ∀ (σ12 : sg_S), sg_F [45, 48, 53] σ σ12 → wx z 1 147 64 [(0, .inr (.inr (.ref 45))), (2, .inl ((sg_g σ 45 20)))] [] σ12 (fun v σ' => v = none ∧ sg_F [45, 48, 53] σ σ') := by
    intro σ12 hF13
    refine wk_b tt_147 16 (pc' := 90) (ls' := [(0, .inr (.inr (.ref 45))), (2, .inl ((sg_g σ 45 20)))]) (st' := [.inl ((sg_g σ 45 20)), .inl ((sg_g (sg_w (sg_w σ12 45 20 ((((sg_g σ 45 20) + 2) + (sg_g σ12 45 21)))) 45 21 (0)) 45 7)), .inr (.inr (.ref 48))]) (σ' := (sg_w (sg_w σ12 45 20 ((((sg_g σ 45 20) + 2) + (sg_g σ12 45 21)))) 45 21 (0))) rfl ?_
    have hF15 : sg_F [45, 48, 53] σ (sg_w (sg_w σ12 45 20 ((((sg_g σ 45 20) + 2) + (sg_g σ12 45 21)))) 45 21 (0)) := (sg_F_w (sg_F_w hF13 rfl _) rfl _)
    generalize (sg_w (sg_w σ12 45 20 ((((sg_g σ 45 20) + 2) + (sg_g σ12 45 21)))) 45 21 (0)) = σ16 at hF15 ⊢
    refine wk_callp tt_147 rfl rfl rfl rfl rfl tt_21 rfl (by decide) (pt_i z σ16 48 3200 ((sg_g σ16 45 7)) ((sg_g σ 45 20)) rfl (by decide)) ?_
    have hF20 : sg_F [45, 48, 53] σ (sx_put σ16 48 3200 (sg_n ((sg_g σ16 45 7))) ((sg_g σ 45 20))) := sg_F_p hF15 rfl _ _ _
    generalize (sx_put σ16 48 3200 (sg_n ((sg_g σ16 45 7))) ((sg_g σ 45 20))) = σ21 at hF20 ⊢
    refine wk_b tt_147 6 (pc' := 103) (ls' := [(0, .inr (.inr (.ref 45))), (2, .inl ((sg_g σ 45 20)))]) (st' := []) (σ' := (sg_w σ21 45 7 (((sg_g σ21 45 7) + 1)))) rfl ?_
    have hF22 : sg_F [45, 48, 53] σ (sg_w σ21 45 7 (((sg_g σ21 45 7) + 1))) := (sg_F_w hF20 rfl _)
    generalize (sg_w σ21 45 7 (((sg_g σ21 45 7) + 1))) = σ23 at hF22 ⊢
    exact wk_rV tt_147 rfl rfl ⟨rfl, hF22⟩
  have lp26 : ∀ (m25 : Nat) (σ12 : sg_S) (v11 : Int), sg_F [45, 48, 53] σ σ12 → (sg_R v11) → (2147483647 - v11).toNat = m25 → wx z 1 147 30 [(0, .inr (.inr (.ref 45))), (2, .inl ((sg_g σ 45 20))), (3, .inl (v11))] [] σ12 (fun v σ' => v = none ∧ sg_F [45, 48, 53] σ σ') := by
    intro m25
    induction m25 using Nat.strongRecOn with
    | _ m25 ih24 =>
      intro σ12 v11 hF13 hR27 hm28
      have hR27_i := sg_id (z := v11) (by omega)
      refine wk_b tt_147 3 (pc' := 35) (ls' := [(0, .inr (.inr (.ref 45))), (2, .inl ((sg_g σ 45 20))), (3, .inl (v11))]) (st' := [.inl ((sg_g σ12 45 21)), .inl (v11)]) (σ' := σ12) rfl ?_
      refine wk_if2n tt_147 (tgt := 64) rfl rfl (fun h29 => ?_) (fun h29 => ?_)
      ·
        have h29_r := sg_Rn ((sg_g σ12 45 21))
        have h29_q := sg_Rn (v11)
        simp only [sg_c, sg_nc] at h29
        exact wk_ls [(0, .inr (.inr (.ref 45))), (2, .inl ((sg_g σ 45 20)))] rfl ⟨rfl, rfl, trivial⟩ (ex14 σ12 hF13)
      ·
        have h29_r := sg_Rn ((sg_g σ12 45 21))
        have h29_q := sg_Rn (v11)
        simp only [sg_c, sg_nc] at h29
        refine wk_b tt_147 10 (pc' := 52) (ls' := [(0, .inr (.inr (.ref 45))), (2, .inl ((sg_g σ 45 20))), (3, .inl (v11))]) (st' := [.inl (v11), .inr (.inr (.ref 54)), .inl ((((sg_g σ 45 20) + 2) + v11)), .inr (.inr (.ref 53))]) (σ' := σ12) rfl ?_
        refine wk_callp tt_147 rfl rfl rfl rfl rfl tt_5 rfl (by decide) (at_i z σ12 54 200 (v11) rfl (by decide)) ?_
        generalize sx_at σ12 54 200 (sg_n (v11)) = q33
        refine wk_callp tt_147 rfl rfl rfl rfl rfl tt_21 rfl (by decide) (pt_i z σ12 53 9003 ((((sg_g σ 45 20) + 2) + v11)) (q33) rfl (by decide)) ?_
        have hF37 : sg_F [45, 48, 53] σ (sx_put σ12 53 9003 (sg_n ((((sg_g σ 45 20) + 2) + v11))) (q33)) := sg_F_p hF13 rfl _ _ _
        generalize (sx_put σ12 53 9003 (sg_n ((((sg_g σ 45 20) + 2) + v11))) (q33)) = σ38 at hF37 ⊢
        refine wk_b tt_147 2 (pc' := 30) (ls' := [(3, .inl ((v11 + 1))), (0, .inr (.inr (.ref 45))), (2, .inl ((sg_g σ 45 20)))]) (st' := []) (σ' := σ38) rfl ?_
        refine wk_ls [(0, .inr (.inr (.ref 45))), (2, .inl ((sg_g σ 45 20))), (3, .inl ((v11 + 1)))] rfl ⟨rfl, rfl, rfl, trivial⟩ (ih24 _ ?_ σ38 ((v11 + 1)) hF37 ?_ rfl)
        · omega
        · omega
  refine wk_ls [(0, .inr (.inr (.ref 45))), (2, .inl ((sg_g σ 45 20))), (3, .inl (0))] rfl ⟨rfl, rfl, rfl, trivial⟩ ?_
  exact lp26 _ σ10 (0) hF9 (by omega) rfl
-- NestedVectors$NestedRun.countOf x.nestedRun a1
set_option maxRecDepth 8000 in
theorem bt_26 (z : Value) (σ : sg_S) (a1 : Int) : wx z 1 136 0 [(0, .inr (.inr (.ref 45))), (1, .inl (a1))] [] σ (fun v σ' => (∃ q, v = some (.inl q)) ∧ sg_F [] σ σ') := by
  have hF0 := sg_F_r [] σ
  refine wk_b tt_136 5 (pc' := 7) (ls' := [(0, .inr (.inr (.ref 45))), (1, .inl (a1))]) (st' := [.inl ((a1 + 1)), .inr (.inr (.ref 53))]) (σ' := σ) rfl ?_
  refine wk_callp tt_136 rfl rfl rfl rfl rfl tt_5 rfl (by decide) (at_i z σ 53 9003 ((a1 + 1)) rfl (by decide)) ?_
  generalize sx_at σ 53 9003 (sg_n ((a1 + 1))) = q4
  exact wk_rI tt_136 rfl rfl ⟨⟨_, rfl⟩, hF0⟩
-- NestedVectors$NestedRun.give x.nestedRun
set_option maxRecDepth 8000 in
theorem bt_27 (z : Value) (σ : sg_S) : wx z 2 144 0 [(0, .inr (.inr (.ref 45)))] [] σ (fun v σ' => v = none ∧ sg_F [45, 48, 53] σ σ') := by
  have hF0 := sg_F_r [45, 48, 53] σ
  refine wk_b tt_144 5 (pc' := 7) (ls' := [(2, .inl (0)), (1, .inl ((sg_g σ 45 21))), (0, .inr (.inr (.ref 45)))]) (st' := []) (σ' := σ) rfl ?_
  have ex5 : ∀ (σ3 : sg_S) (v1 : Int), sg_F [45, 48, 53] σ σ3 → wx z 2 144 44 [(0, .inr (.inr (.ref 45))), (1, .inl (v1))] [] σ3 (fun v σ' => v = none ∧ sg_F [45, 48, 53] σ σ') := by
    intro σ3 v1 hF4
    refine wk_b tt_144 2 (pc' := 46) (ls' := [(0, .inr (.inr (.ref 45))), (1, .inl (v1))]) (st' := [.inl (v1), .inr (.inr (.ref 45))]) (σ' := σ3) rfl ?_
    refine wk_call tt_144 rfl rfl rfl rfl rfl tt_162 rfl (by decide) (bt_20 z σ3 (v1)) (fun w6 σ7 hq8 => ?_)
    obtain ⟨⟨q10, rfl, hq10⟩, hF9⟩ := hq8
    have hF11 := sg_F_t hF4 (sg_F_m (L := [45, 48, 53]) hF9 rfl)
    refine wk_ifb tt_144 (tgt := 57) rfl rfl ?_ ?_
    ·
      exact wk_rV tt_144 rfl rfl ⟨rfl, hF11⟩
    ·
      refine wk_b tt_144 2 (pc' := 54) (ls' := [(0, .inr (.inr (.ref 45))), (1, .inl (v1))]) (st' := [.inl (v1), .inr (.inr (.ref 45))]) (σ' := σ7) rfl ?_
      refine wk_call tt_144 rfl rfl rfl rfl rfl tt_147 rfl (by decide) (bt_25 z σ7 (v1)) (fun w13 σ14 hq15 => ?_)
      obtain ⟨rfl, hF16⟩ := hq15
      have hF17 := sg_F_t hF11 (sg_F_m (L := [45, 48, 53]) hF16 rfl)
      exact wk_rV tt_144 rfl rfl ⟨rfl, hF17⟩
  have lp20 : ∀ (m19 : Nat) (σ3 : sg_S) (v1 : Int) (v2 : Int), sg_F [45, 48, 53] σ σ3 → (sg_R v2) → (2147483647 - v2).toNat = m19 → wx z 2 144 7 [(0, .inr (.inr (.ref 45))), (1, .inl (v1)), (2, .inl (v2))] [] σ3 (fun v σ' => v = none ∧ sg_F [45, 48, 53] σ σ') := by
    intro m19
    induction m19 using Nat.strongRecOn with
    | _ m19 ih18 =>
      intro σ3 v1 v2 hF4 hR21 hm22
      have hR21_i := sg_id (z := v2) (by omega)
      refine wk_b tt_144 3 (pc' := 12) (ls' := [(0, .inr (.inr (.ref 45))), (1, .inl (v1)), (2, .inl (v2))]) (st' := [.inl ((sg_g σ3 45 21)), .inl (v2)]) (σ' := σ3) rfl ?_
      refine wk_if2n tt_144 (tgt := 44) rfl rfl (fun h23 => ?_) (fun h23 => ?_)
      ·
        have h23_r := sg_Rn ((sg_g σ3 45 21))
        have h23_q := sg_Rn (v2)
        simp only [sg_c, sg_nc] at h23
        exact wk_ls [(0, .inr (.inr (.ref 45))), (1, .inl (v1))] rfl ⟨rfl, rfl, trivial⟩ (ex5 σ3 (v1) hF4)
      ·
        have h23_r := sg_Rn ((sg_g σ3 45 21))
        have h23_q := sg_Rn (v2)
        simp only [sg_c, sg_nc] at h23
        refine wk_b tt_144 3 (pc' := 20) (ls' := [(0, .inr (.inr (.ref 45))), (1, .inl (v1)), (2, .inl (v2))]) (st' := [.inl (1), .inl ((sg_g σ3 45 9))]) (σ' := σ3) rfl ?_
        refine wk_if2b tt_144 (tgt := 44) rfl rfl ?_ ?_
        ·
          exact wk_ls [(0, .inr (.inr (.ref 45))), (1, .inl (v1))] rfl ⟨rfl, rfl, trivial⟩ (ex5 σ3 (v1) hF4)
        ·
          refine wk_b tt_144 5 (pc' := 30) (ls' := [(0, .inr (.inr (.ref 45))), (1, .inl (v1)), (2, .inl (v2))]) (st' := [.inl (v2), .inr (.inr (.ref 54)), .inr (.inr (.ref 45)), .inl (v1)]) (σ' := σ3) rfl ?_
          refine wk_callp tt_144 rfl rfl rfl rfl rfl tt_5 rfl (by decide) (at_i z σ3 54 200 (v2) rfl (by decide)) ?_
          generalize sx_at σ3 54 200 (sg_n (v2)) = q28
          refine wk_call tt_144 rfl rfl rfl rfl rfl tt_136 rfl (by decide) (bt_26 z σ3 (q28)) (fun w29 σ30 hq31 => ?_)
          obtain ⟨⟨q33, rfl⟩, hF32⟩ := hq31
          have hF34 := sg_F_t hF4 (sg_F_m (L := [45, 48, 53]) hF32 rfl)
          refine wk_b tt_144 4 (pc' := 7) (ls' := [(2, .inl ((v2 + 1))), (1, .inl ((v1 + q33))), (0, .inr (.inr (.ref 45)))]) (st' := []) (σ' := σ30) rfl ?_
          refine wk_ls [(0, .inr (.inr (.ref 45))), (1, .inl ((v1 + q33))), (2, .inl ((v2 + 1)))] rfl ⟨rfl, rfl, rfl, trivial⟩ (ih18 _ ?_ σ30 ((v1 + q33)) ((v2 + 1)) hF34 ?_ rfl)
          · omega
          · omega
  refine wk_ls [(0, .inr (.inr (.ref 45))), (1, .inl ((sg_g σ 45 21))), (2, .inl (0))] rfl ⟨rfl, rfl, rfl, trivial⟩ ?_
  exact lp20 _ σ ((sg_g σ 45 21)) (0) hF0 (by omega) rfl
-- NestedVectors$NestedRun.row x.nestedRun a1
set_option maxRecDepth 8000 in
theorem bt_28 (z : Value) (σ : sg_S) (a1 : Int) : wx z 3 159 0 [(0, .inr (.inr (.ref 45))), (1, .inl (a1))] [] σ (fun v σ' => v = none ∧ sg_F [45, 48, 53, 54] σ σ') := by
  have hF0 := sg_F_r [45, 48, 53, 54] σ
  refine wk_b tt_159 2 (pc' := 2) (ls' := [(0, .inr (.inr (.ref 45))), (1, .inl (a1))]) (st' := [.inl (a1), .inr (.inr (.ref 45))]) (σ' := σ) rfl ?_
  refine wk_call tt_159 rfl rfl rfl rfl rfl tt_143 rfl (by decide) (bt_24 z σ (a1)) (fun w1 σ2 hq3 => ?_)
  obtain ⟨rfl, hF4⟩ := hq3
  have hF5 := sg_F_t hF0 (sg_F_m (L := [45, 48, 53, 54]) hF4 rfl)
  refine wk_b tt_159 1 (pc' := 6) (ls' := [(0, .inr (.inr (.ref 45))), (1, .inl (a1))]) (st' := [.inr (.inr (.ref 45))]) (σ' := σ2) rfl ?_
  refine wk_call tt_159 rfl rfl rfl rfl rfl tt_144 rfl (by decide) (bt_27 z σ2) (fun w6 σ7 hq8 => ?_)
  obtain ⟨rfl, hF9⟩ := hq8
  have hF10 := sg_F_t hF5 (sg_F_m (L := [45, 48, 53, 54]) hF9 rfl)
  exact wk_rV tt_159 rfl rfl ⟨rfl, hF10⟩
-- NestedVectors$NestedRun.collect x.nestedRun a1
set_option maxRecDepth 8000 in
theorem bt_29 (z : Value) (σ : sg_S) (a1 : Int) : wx z 3 133 0 [(0, .inr (.inr (.ref 45))), (1, .inl (a1))] [] σ (fun v σ' => v = none ∧ sg_F [45, 48, 53, 54] σ σ') := by
  have hF0 := sg_F_r [45, 48, 53, 54] σ
  refine wk_b tt_133 6 (pc' := 10) (ls' := [(0, .inr (.inr (.ref 45))), (1, .inl (a1))]) (st' := [.inl (a1), .inr (.inr (.ref 56)), .inl ((sg_g σ 45 7)), .inr (.inr (.ref 45))]) (σ' := σ) rfl ?_
  refine wk_callp tt_133 rfl rfl rfl rfl rfl tt_5 rfl (by decide) (at_i z σ 56 200 (a1) rfl (by decide)) ?_
  generalize sx_at σ 56 200 (sg_n (a1)) = q4
  refine wk_b tt_133 1 (pc' := 14) (ls' := [(0, .inr (.inr (.ref 45))), (1, .inl (a1))]) (st' := [.inl (((sg_g σ 45 7) - q4)), .inr (.inr (.ref 45))]) (σ' := σ) rfl ?_
  refine wk_call tt_133 rfl rfl rfl rfl rfl tt_143 rfl (by decide) (bt_24 z σ (((sg_g σ 45 7) - q4))) (fun w5 σ6 hq7 => ?_)
  obtain ⟨rfl, hF8⟩ := hq7
  have hF9 := sg_F_t hF0 (sg_F_m (L := [45, 48, 53, 54]) hF8 rfl)
  refine wk_b tt_133 7 (pc' := 30) (ls' := [(0, .inr (.inr (.ref 45))), (1, .inl (a1))]) (st' := [.inl (a1), .inr (.inr (.ref 13)), .inl ((sg_g σ6 45 7)), .inr (.inr (.ref 45))]) (σ' := σ6) rfl ?_
  refine wk_callp tt_133 rfl rfl rfl rfl rfl tt_5 rfl (by decide) (at_i z σ6 13 200 (a1) rfl (by decide)) ?_
  generalize sx_at σ6 13 200 (sg_n (a1)) = q13
  refine wk_b tt_133 3 (pc' := 38) (ls' := [(0, .inr (.inr (.ref 45))), (1, .inl (a1))]) (st' := [.inr (.inr (.ref 45))]) (σ' := (sg_w σ6 45 7 (((sg_g σ6 45 7) - q13)))) rfl ?_
  have hF14 : sg_F [45, 48, 53, 54] σ (sg_w σ6 45 7 (((sg_g σ6 45 7) - q13))) := (sg_F_w hF9 rfl _)
  generalize (sg_w σ6 45 7 (((sg_g σ6 45 7) - q13))) = σ15 at hF14 ⊢
  refine wk_call tt_133 rfl rfl rfl rfl rfl tt_144 rfl (by decide) (bt_27 z σ15) (fun w16 σ17 hq18 => ?_)
  obtain ⟨rfl, hF19⟩ := hq18
  have hF20 := sg_F_t hF14 (sg_F_m (L := [45, 48, 53, 54]) hF19 rfl)
  exact wk_rV tt_133 rfl rfl ⟨rfl, hF20⟩
-- NestedVectors$Machine.finish x.nestedRun a1
set_option maxRecDepth 8000 in
theorem bt_30 (z : Value) (σ : sg_S) (a1 : Int) : wx z 4 120 0 [(0, .inr (.inr (.ref 45))), (1, .inl (a1))] [] σ (fun v σ' => v = none ∧ sg_F [45, 48, 53, 54] σ σ') := by
  have hF0 := sg_F_r [45, 48, 53, 54] σ
  refine wk_b tt_120 5 (pc' := 9) (ls' := [(0, .inr (.inr (.ref 45))), (1, .inl (a1))]) (st' := [.inl (a1), .inr (.inr (.ref 6)), .inr (.inr (.ref 45))]) (σ' := σ) rfl ?_
  refine wk_callp tt_120 rfl rfl rfl rfl rfl tt_5 rfl (by decide) (at_i z σ 6 200 (a1) rfl (by decide)) ?_
  generalize sx_at σ 6 200 (sg_n (a1)) = q4
  refine wk_b tt_120 5 (pc' := 23) (ls' := [(0, .inr (.inr (.ref 45))), (1, .inl (a1))]) (st' := [.inl (a1), .inr (.inr (.ref 3))]) (σ' := (sg_w σ 45 9 (q4))) rfl ?_
  have hF5 : sg_F [45, 48, 53, 54] σ (sg_w σ 45 9 (q4)) := (sg_F_w hF0 rfl _)
  generalize (sg_w σ 45 9 (q4)) = σ6 at hF5 ⊢
  refine wk_callp tt_120 rfl rfl rfl rfl rfl tt_5 rfl (by decide) (at_i z σ6 3 200 (a1) rfl (by decide)) ?_
  generalize sx_at σ6 3 200 (sg_n (a1)) = q10
  have k11 : wx z 4 120 60 [(0, .inr (.inr (.ref 45))), (1, .inl (a1))] [] σ6 (fun v σ' => v = none ∧ sg_F [45, 48, 53, 54] σ σ') := by
    refine wk_b tt_120 5 (pc' := 69) (ls' := [(0, .inr (.inr (.ref 45))), (1, .inl (a1))]) (st' := [.inl (a1), .inr (.inr (.ref 5)), .inr (.inr (.ref 45))]) (σ' := σ6) rfl ?_
    refine wk_callp tt_120 rfl rfl rfl rfl rfl tt_5 rfl (by decide) (at_i z σ6 5 200 (a1) rfl (by decide)) ?_
    generalize sx_at σ6 5 200 (sg_n (a1)) = q15
    refine wk_call tt_120 rfl rfl rfl rfl rfl tt_135 rfl (by decide) (bt_23 z σ6 (q15)) (fun w16 σ17 hq18 => ?_)
    obtain ⟨rfl, hF19⟩ := hq18
    have hF20 := sg_F_t hF5 (sg_F_m (L := [45, 48, 53, 54]) hF19 rfl)
    refine wk_b tt_120 1 (pc' := 126) (ls' := [(0, .inr (.inr (.ref 45))), (1, .inl (a1))]) (st' := []) (σ' := σ17) rfl ?_
    exact wk_rV tt_120 rfl rfl ⟨rfl, hF20⟩
  have k21 : wx z 4 120 78 [(0, .inr (.inr (.ref 45))), (1, .inl (a1))] [] σ6 (fun v σ' => v = none ∧ sg_F [45, 48, 53, 54] σ σ') := by
    refine wk_b tt_120 7 (pc' := 91) (ls' := [(0, .inr (.inr (.ref 45))), (1, .inl (a1))]) (st' := [.inl (a1), .inr (.inr (.ref 16)), .inr (.inr (.ref 46)), .inr (.inr (.ref 45))]) (σ' := σ6) rfl ?_
    refine wk_callp tt_120 rfl rfl rfl rfl rfl tt_5 rfl (by decide) (at_i z σ6 16 200 (a1) rfl (by decide)) ?_
    generalize sx_at σ6 16 200 (sg_n (a1)) = q25
    refine wk_callp tt_120 rfl rfl rfl rfl rfl tt_5 rfl (by decide) (at_i z σ6 46 272 (q25) rfl (by decide)) ?_
    generalize sx_at σ6 46 272 (sg_n (q25)) = q29
    refine wk_call tt_120 rfl rfl rfl rfl rfl tt_125 rfl (by decide) (bt_22 z σ6 (q29)) (fun w30 σ31 hq32 => ?_)
    obtain ⟨rfl, hF33⟩ := hq32
    have hF34 := sg_F_t hF5 (sg_F_m (L := [45, 48, 53, 54]) hF33 rfl)
    refine wk_b tt_120 1 (pc' := 126) (ls' := [(0, .inr (.inr (.ref 45))), (1, .inl (a1))]) (st' := []) (σ' := σ31) rfl ?_
    exact wk_rV tt_120 rfl rfl ⟨rfl, hF34⟩
  have k35 : wx z 4 120 103 [(0, .inr (.inr (.ref 45))), (1, .inl (a1))] [] σ6 (fun v σ' => v = none ∧ sg_F [45, 48, 53, 54] σ σ') := by
    refine wk_b tt_120 5 (pc' := 112) (ls' := [(0, .inr (.inr (.ref 45))), (1, .inl (a1))]) (st' := [.inl (a1), .inr (.inr (.ref 10)), .inr (.inr (.ref 45))]) (σ' := σ6) rfl ?_
    refine wk_callp tt_120 rfl rfl rfl rfl rfl tt_5 rfl (by decide) (at_i z σ6 10 200 (a1) rfl (by decide)) ?_
    generalize sx_at σ6 10 200 (sg_n (a1)) = q39
    refine wk_call tt_120 rfl rfl rfl rfl rfl tt_159 rfl (by decide) (bt_28 z σ6 (q39)) (fun w40 σ41 hq42 => ?_)
    obtain ⟨rfl, hF43⟩ := hq42
    have hF44 := sg_F_t hF5 (sg_F_m (L := [45, 48, 53, 54]) hF43 rfl)
    refine wk_b tt_120 1 (pc' := 126) (ls' := [(0, .inr (.inr (.ref 45))), (1, .inl (a1))]) (st' := []) (σ' := σ41) rfl ?_
    exact wk_rV tt_120 rfl rfl ⟨rfl, hF44⟩
  have k45 : wx z 4 120 121 [(0, .inr (.inr (.ref 45))), (1, .inl (a1))] [] σ6 (fun v σ' => v = none ∧ sg_F [45, 48, 53, 54] σ σ') := by
    refine wk_b tt_120 2 (pc' := 123) (ls' := [(0, .inr (.inr (.ref 45))), (1, .inl (a1))]) (st' := [.inl (a1), .inr (.inr (.ref 45))]) (σ' := σ6) rfl ?_
    refine wk_call tt_120 rfl rfl rfl rfl rfl tt_133 rfl (by decide) (bt_29 z σ6 (a1)) (fun w46 σ47 hq48 => ?_)
    obtain ⟨rfl, hF49⟩ := hq48
    have hF50 := sg_F_t hF5 (sg_F_m (L := [45, 48, 53, 54]) hF49 rfl)
    exact wk_rV tt_120 rfl rfl ⟨rfl, hF50⟩
  refine wk_n ?_
  have hx52 := sg_Rn (q10)
  generalize sg_n (q10) = x51 at hx52 ⊢
  by_cases e53 : x51 = 257
  · exact wk_lw tt_120 (off := 34) (tgt := 60) rfl (by decide) hx52 (by rw [e53]; decide) rfl k11
  by_cases e54 : x51 = 258
  · exact wk_lw tt_120 (off := 52) (tgt := 78) rfl (by decide) hx52 (by rw [e54]; decide) rfl k21
  by_cases e55 : x51 = 279
  · exact wk_lw tt_120 (off := 77) (tgt := 103) rfl (by decide) hx52 (by rw [e55]; decide) rfl k35
  exact wk_lw tt_120 (off := 95) (tgt := 121) rfl (by decide) hx52 (by simp only [Op.lookupswitch.offset]; repeat (rw [if_neg (by omega)])) rfl k45
-- NestedVectors$NestedRun.measure x.nestedRun a1
set_option maxRecDepth 8000 in
theorem bt_31 (z : Value) (σ : sg_S) (a1 : Int) : wx z 2 150 0 [(0, .inr (.inr (.ref 45))), (1, .inl (a1))] [] σ (fun v σ' => v = none ∧ sg_F [45, 48] σ σ') := by
  have hF0 := sg_F_r [45, 48] σ
  refine wk_b tt_150 3 (pc' := 3) (ls' := [(0, .inr (.inr (.ref 45))), (1, .inl (a1))]) (st' := [.inl (a1), .inr (.inr (.ref 45)), .inr (.inr (.ref 45))]) (σ' := σ) rfl ?_
  refine wk_call tt_150 rfl rfl rfl rfl rfl tt_149 rfl (by decide) (bt_4 z σ (a1)) (fun w1 σ2 hq3 => ?_)
  obtain ⟨⟨q5, rfl⟩, hF4⟩ := hq3
  have hF6 := sg_F_t hF0 (sg_F_m (L := [45, 48]) hF4 rfl)
  refine wk_call tt_150 rfl rfl rfl rfl rfl tt_125 rfl (by decide) (bt_22 z σ2 (q5)) (fun w7 σ8 hq9 => ?_)
  obtain ⟨rfl, hF10⟩ := hq9
  have hF11 := sg_F_t hF6 (sg_F_m (L := [45, 48]) hF10 rfl)
  exact wk_rV tt_150 rfl rfl ⟨rfl, hF11⟩
-- NestedVectors.badSize a0
set_option maxRecDepth 8000 in
theorem bt_32 (z : Value) (σ : sg_S) (a0 : Int) : wx z 0 7 0 [(0, .inl (a0))] [] σ (fun v σ' => (∃ q, v = some (.inl q) ∧ (q = 0 ∨ q = 1)) ∧ sg_F [] σ σ') := by
  have hF0 := sg_F_r [] σ
  refine wk_b tt_7 1 (pc' := 1) (ls' := [(0, .inl (a0))]) (st' := [.inl (a0)]) (σ' := σ) rfl ?_
  refine wk_ifb tt_7 (tgt := 11) rfl rfl ?_ ?_
  ·
    refine wk_b tt_7 2 (pc' := 16) (ls' := [(0, .inl (a0))]) (st' := [.inl (1)]) (σ' := σ) rfl ?_
    exact wk_rZ tt_7 rfl rfl (by decide) ⟨⟨_, rfl, by decide⟩, hF0⟩
  ·
    refine wk_b tt_7 2 (pc' := 8) (ls' := [(0, .inl (a0))]) (st' := [.inl (200), .inl (a0)]) (σ' := σ) rfl ?_
    refine wk_if2b tt_7 (tgt := 15) rfl rfl ?_ ?_
    ·
      refine wk_b tt_7 1 (pc' := 16) (ls' := [(0, .inl (a0))]) (st' := [.inl (0)]) (σ' := σ) rfl ?_
      exact wk_rZ tt_7 rfl rfl (by decide) ⟨⟨_, rfl, by decide⟩, hF0⟩
    ·
      refine wk_b tt_7 2 (pc' := 16) (ls' := [(0, .inl (a0))]) (st' := [.inl (1)]) (σ' := σ) rfl ?_
      exact wk_rZ tt_7 rfl rfl (by decide) ⟨⟨_, rfl, by decide⟩, hF0⟩
-- NestedVectors$NestedRun.add x.nestedRun a1
set_option maxRecDepth 8000 in
theorem bt_33 (z : Value) (σ : sg_S) (a1 : Int) : wx z 1 129 0 [(0, .inr (.inr (.ref 45))), (1, .inl (a1))] [] σ (fun v σ' => v = none ∧ sg_F [45, 54] σ σ') := by
  have hF0 := sg_F_r [45, 54] σ
  refine wk_b tt_129 5 (pc' := 9) (ls' := [(0, .inr (.inr (.ref 45))), (1, .inl (a1))]) (st' := [.inl (a1), .inl ((sg_g σ 45 21)), .inr (.inr (.ref 54))]) (σ' := σ) rfl ?_
  refine wk_callp tt_129 rfl rfl rfl rfl rfl tt_21 rfl (by decide) (pt_i z σ 54 200 ((sg_g σ 45 21)) (a1) rfl (by decide)) ?_
  have hF4 : sg_F [45, 54] σ (sx_put σ 54 200 (sg_n ((sg_g σ 45 21))) (a1)) := sg_F_p hF0 rfl _ _ _
  generalize (sx_put σ 54 200 (sg_n ((sg_g σ 45 21))) (a1)) = σ5 at hF4 ⊢
  refine wk_b tt_129 6 (pc' := 22) (ls' := [(0, .inr (.inr (.ref 45))), (1, .inl (a1))]) (st' := []) (σ' := (sg_w σ5 45 21 (((sg_g σ5 45 21) + 1)))) rfl ?_
  have hF6 : sg_F [45, 54] σ (sg_w σ5 45 21 (((sg_g σ5 45 21) + 1))) := (sg_F_w hF4 rfl _)
  generalize (sg_w σ5 45 21 (((sg_g σ5 45 21) + 1))) = σ7 at hF6 ⊢
  exact wk_rV tt_129 rfl rfl ⟨rfl, hF6⟩
-- NestedVectors$NestedRun.countUp x.nestedRun a1
set_option maxRecDepth 8000 in
theorem bt_34 (z : Value) (σ : sg_S) (a1 : Int) : wx z 3 137 0 [(0, .inr (.inr (.ref 45))), (1, .inl (a1))] [] σ (fun v σ' => v = none ∧ sg_F [45, 48, 53, 54] σ σ') := by
  have hF0 := sg_F_r [45, 48, 53, 54] σ
  refine wk_b tt_137 1 (pc' := 1) (ls' := [(0, .inr (.inr (.ref 45))), (1, .inl (a1))]) (st' := [.inl (a1)]) (σ' := σ) rfl ?_
  refine wk_call tt_137 rfl rfl rfl rfl rfl tt_7 rfl (by decide) (bt_32 z σ (a1)) (fun w1 σ2 hq3 => ?_)
  obtain ⟨⟨q5, rfl, hq5⟩, hF4⟩ := hq3
  have hF6 := sg_F_t hF0 (sg_F_m (L := [45, 48, 53, 54]) hF4 rfl)
  refine wk_ifb tt_137 (tgt := 13) rfl rfl ?_ ?_
  ·
    refine wk_b tt_137 2 (pc' := 15) (ls' := [(2, .inl (0)), (0, .inr (.inr (.ref 45))), (1, .inl (a1))]) (st' := []) (σ' := σ2) rfl ?_
    have ex11 : ∀ (σ9 : sg_S), sg_F [45, 48, 53, 54] σ σ9 → wx z 3 137 31 [(0, .inr (.inr (.ref 45)))] [] σ9 (fun v σ' => v = none ∧ sg_F [45, 48, 53, 54] σ σ') := by
      intro σ9 hF10
      refine wk_b tt_137 1 (pc' := 32) (ls' := [(0, .inr (.inr (.ref 45)))]) (st' := [.inr (.inr (.ref 45))]) (σ' := σ9) rfl ?_
      refine wk_call tt_137 rfl rfl rfl rfl rfl tt_144 rfl (by decide) (bt_27 z σ9) (fun w12 σ13 hq14 => ?_)
      obtain ⟨rfl, hF15⟩ := hq14
      have hF16 := sg_F_t hF10 (sg_F_m (L := [45, 48, 53, 54]) hF15 rfl)
      exact wk_rV tt_137 rfl rfl ⟨rfl, hF16⟩
    have lp19 : ∀ (m18 : Nat) (σ9 : sg_S) (v8 : Int), sg_F [45, 48, 53, 54] σ σ9 → (sg_R v8) → (2147483647 - v8).toNat = m18 → wx z 3 137 15 [(0, .inr (.inr (.ref 45))), (1, .inl (a1)), (2, .inl (v8))] [] σ9 (fun v σ' => v = none ∧ sg_F [45, 48, 53, 54] σ σ') := by
      intro m18
      induction m18 using Nat.strongRecOn with
      | _ m18 ih17 =>
        intro σ9 v8 hF10 hR20 hm21
        have hR20_i := sg_id (z := v8) (by omega)
        refine wk_b tt_137 2 (pc' := 17) (ls' := [(0, .inr (.inr (.ref 45))), (1, .inl (a1)), (2, .inl (v8))]) (st' := [.inl (a1), .inl (v8)]) (σ' := σ9) rfl ?_
        refine wk_if2n tt_137 (tgt := 31) rfl rfl (fun h22 => ?_) (fun h22 => ?_)
        ·
          have h22_r := sg_Rn (a1)
          have h22_q := sg_Rn (v8)
          simp only [sg_c, sg_nc] at h22
          exact wk_ls [(0, .inr (.inr (.ref 45)))] rfl ⟨rfl, trivial⟩ (ex11 σ9 hF10)
        ·
          have h22_r := sg_Rn (a1)
          have h22_q := sg_Rn (v8)
          simp only [sg_c, sg_nc] at h22
          refine wk_b tt_137 2 (pc' := 22) (ls' := [(0, .inr (.inr (.ref 45))), (1, .inl (a1)), (2, .inl (v8))]) (st' := [.inl (v8), .inr (.inr (.ref 45))]) (σ' := σ9) rfl ?_
          refine wk_call tt_137 rfl rfl rfl rfl rfl tt_129 rfl (by decide) (bt_33 z σ9 (v8)) (fun w23 σ24 hq25 => ?_)
          obtain ⟨rfl, hF26⟩ := hq25
          have hF27 := sg_F_t hF10 (sg_F_m (L := [45, 48, 53, 54]) hF26 rfl)
          refine wk_b tt_137 2 (pc' := 15) (ls' := [(2, .inl ((v8 + 1))), (0, .inr (.inr (.ref 45))), (1, .inl (a1))]) (st' := []) (σ' := σ24) rfl ?_
          refine wk_ls [(0, .inr (.inr (.ref 45))), (1, .inl (a1)), (2, .inl ((v8 + 1)))] rfl ⟨rfl, rfl, rfl, trivial⟩ (ih17 _ ?_ σ24 ((v8 + 1)) hF27 ?_ rfl)
          · omega
          · omega
    refine wk_ls [(0, .inr (.inr (.ref 45))), (1, .inl (a1)), (2, .inl (0))] rfl ⟨rfl, rfl, rfl, trivial⟩ ?_
    exact lp19 _ σ2 (0) hF6 (by omega) rfl
  ·
    refine wk_b tt_137 3 (pc' := 12) (ls' := [(0, .inr (.inr (.ref 45))), (1, .inl (a1))]) (st' := []) (σ' := (sg_w σ2 45 10 (5))) rfl ?_
    have hF28 : sg_F [45, 48, 53, 54] σ (sg_w σ2 45 10 (5)) := (sg_F_w hF6 rfl _)
    generalize (sg_w σ2 45 10 (5)) = σ29 at hF28 ⊢
    exact wk_rV tt_137 rfl rfl ⟨rfl, hF28⟩
-- NestedVectors$NestedRun.sumUp x.nestedRun a1
set_option maxRecDepth 8000 in
theorem bt_35 (z : Value) (σ : sg_S) (a1 : Int) : wx z 3 163 0 [(0, .inr (.inr (.ref 45))), (1, .inl (a1))] [] σ (fun v σ' => v = none ∧ sg_F [45, 48, 53, 54] σ σ') := by
  have hF0 := sg_F_r [45, 48, 53, 54] σ
  refine wk_b tt_163 4 (pc' := 4) (ls' := [(3, .inl (0)), (2, .inl (0)), (0, .inr (.inr (.ref 45))), (1, .inl (a1))]) (st' := []) (σ' := σ) rfl ?_
  have ex5 : ∀ (σ3 : sg_S), sg_F [45, 48, 53, 54] σ σ3 → wx z 3 163 33 [(0, .inr (.inr (.ref 45)))] [] σ3 (fun v σ' => v = none ∧ sg_F [45, 48, 53, 54] σ σ') := by
    intro σ3 hF4
    refine wk_b tt_163 1 (pc' := 34) (ls' := [(0, .inr (.inr (.ref 45)))]) (st' := [.inr (.inr (.ref 45))]) (σ' := σ3) rfl ?_
    refine wk_call tt_163 rfl rfl rfl rfl rfl tt_144 rfl (by decide) (bt_27 z σ3) (fun w6 σ7 hq8 => ?_)
    obtain ⟨rfl, hF9⟩ := hq8
    have hF10 := sg_F_t hF4 (sg_F_m (L := [45, 48, 53, 54]) hF9 rfl)
    exact wk_rV tt_163 rfl rfl ⟨rfl, hF10⟩
  have lp13 : ∀ (m12 : Nat) (σ3 : sg_S) (v1 : Int) (v2 : Int), sg_F [45, 48, 53, 54] σ σ3 → (sg_R v2) → (2147483647 - v2).toNat = m12 → wx z 3 163 4 [(0, .inr (.inr (.ref 45))), (1, .inl (a1)), (2, .inl (v1)), (3, .inl (v2))] [] σ3 (fun v σ' => v = none ∧ sg_F [45, 48, 53, 54] σ σ') := by
    intro m12
    induction m12 using Nat.strongRecOn with
    | _ m12 ih11 =>
      intro σ3 v1 v2 hF4 hR14 hm15
      have hR14_i := sg_id (z := v2) (by omega)
      refine wk_b tt_163 3 (pc' := 7) (ls' := [(0, .inr (.inr (.ref 45))), (1, .inl (a1)), (2, .inl (v1)), (3, .inl (v2))]) (st' := [.inl (a1), .inr (.inr (.ref 45)), .inl (v2)]) (σ' := σ3) rfl ?_
      refine wk_call tt_163 rfl rfl rfl rfl rfl tt_149 rfl (by decide) (bt_4 z σ3 (a1)) (fun w16 σ17 hq18 => ?_)
      obtain ⟨⟨q20, rfl⟩, hF19⟩ := hq18
      have hF21 := sg_F_t hF4 (sg_F_m (L := [45, 48, 53, 54]) hF19 rfl)
      refine wk_if2n tt_163 (tgt := 33) rfl rfl (fun h22 => ?_) (fun h22 => ?_)
      ·
        have h22_r := sg_Rn (q20)
        have h22_q := sg_Rn (v2)
        simp only [sg_c, sg_nc] at h22
        exact wk_ls [(0, .inr (.inr (.ref 45)))] rfl ⟨rfl, trivial⟩ (ex5 σ17 hF21)
      ·
        have h22_r := sg_Rn (q20)
        have h22_q := sg_Rn (v2)
        simp only [sg_c, sg_nc] at h22
        refine wk_b tt_163 2 (pc' := 15) (ls' := [(0, .inr (.inr (.ref 45))), (1, .inl (a1)), (2, .inl (v1)), (3, .inl (v2))]) (st' := [.inl (v1), .inr (.inr (.ref 45))]) (σ' := σ17) rfl ?_
        refine wk_call tt_163 rfl rfl rfl rfl rfl tt_129 rfl (by decide) (bt_33 z σ17 (v1)) (fun w23 σ24 hq25 => ?_)
        obtain ⟨rfl, hF26⟩ := hq25
        have hF27 := sg_F_t hF21 (sg_F_m (L := [45, 48, 53, 54]) hF26 rfl)
        refine wk_b tt_163 4 (pc' := 22) (ls' := [(0, .inr (.inr (.ref 45))), (1, .inl (a1)), (2, .inl (v1)), (3, .inl (v2))]) (st' := [.inl (v2), .inl (a1), .inr (.inr (.ref 45)), .inl (v1)]) (σ' := σ24) rfl ?_
        refine wk_call tt_163 rfl rfl rfl rfl rfl tt_145 rfl (by decide) (bt_6 z σ24 (a1) (v2)) (fun w28 σ29 hq30 => ?_)
        obtain ⟨⟨q32, rfl⟩, hF31⟩ := hq30
        have hF33 := sg_F_t hF27 (sg_F_m (L := [45, 48, 53, 54]) hF31 rfl)
        refine wk_b tt_163 4 (pc' := 4) (ls' := [(3, .inl ((v2 + 1))), (2, .inl ((v1 + q32))), (0, .inr (.inr (.ref 45))), (1, .inl (a1))]) (st' := []) (σ' := σ29) rfl ?_
        refine wk_ls [(0, .inr (.inr (.ref 45))), (1, .inl (a1)), (2, .inl ((v1 + q32))), (3, .inl ((v2 + 1)))] rfl ⟨rfl, rfl, rfl, rfl, trivial⟩ (ih11 _ ?_ σ29 ((v1 + q32)) ((v2 + 1)) hF33 ?_ rfl)
        · omega
        · omega
  refine wk_ls [(0, .inr (.inr (.ref 45))), (1, .inl (a1)), (2, .inl (0)), (3, .inl (0))] rfl ⟨rfl, rfl, rfl, rfl, trivial⟩ ?_
  exact lp13 _ σ (0) (0) hF0 (by omega) rfl
-- NestedVectors$NestedRun.reverse x.nestedRun a1
set_option maxRecDepth 8000 in
theorem bt_36 (z : Value) (σ : sg_S) (a1 : Int) : wx z 3 158 0 [(0, .inr (.inr (.ref 45))), (1, .inl (a1))] [] σ (fun v σ' => v = none ∧ sg_F [45, 48, 53, 54] σ σ') := by
  have hF0 := sg_F_r [45, 48, 53, 54] σ
  refine wk_b tt_158 2 (pc' := 2) (ls' := [(0, .inr (.inr (.ref 45))), (1, .inl (a1))]) (st' := [.inl (a1), .inr (.inr (.ref 45))]) (σ' := σ) rfl ?_
  refine wk_call tt_158 rfl rfl rfl rfl rfl tt_149 rfl (by decide) (bt_4 z σ (a1)) (fun w1 σ2 hq3 => ?_)
  obtain ⟨⟨q5, rfl⟩, hF4⟩ := hq3
  have hF6 := sg_F_t hF0 (sg_F_m (L := [45, 48, 53, 54]) hF4 rfl)
  refine wk_b tt_158 3 (pc' := 8) (ls' := [(2, .inl ((q5 - 1))), (0, .inr (.inr (.ref 45))), (1, .inl (a1))]) (st' := []) (σ' := σ2) rfl ?_
  have ex10 : ∀ (σ8 : sg_S), sg_F [45, 48, 53, 54] σ σ8 → wx z 3 158 28 [(0, .inr (.inr (.ref 45)))] [] σ8 (fun v σ' => v = none ∧ sg_F [45, 48, 53, 54] σ σ') := by
    intro σ8 hF9
    refine wk_b tt_158 1 (pc' := 29) (ls' := [(0, .inr (.inr (.ref 45)))]) (st' := [.inr (.inr (.ref 45))]) (σ' := σ8) rfl ?_
    refine wk_call tt_158 rfl rfl rfl rfl rfl tt_144 rfl (by decide) (bt_27 z σ8) (fun w11 σ12 hq13 => ?_)
    obtain ⟨rfl, hF14⟩ := hq13
    have hF15 := sg_F_t hF9 (sg_F_m (L := [45, 48, 53, 54]) hF14 rfl)
    exact wk_rV tt_158 rfl rfl ⟨rfl, hF15⟩
  have lp18 : ∀ (m17 : Nat) (σ8 : sg_S) (v7 : Int), sg_F [45, 48, 53, 54] σ σ8 → (sg_R v7) → (v7 + 2147483648).toNat = m17 → wx z 3 158 8 [(0, .inr (.inr (.ref 45))), (1, .inl (a1)), (2, .inl (v7))] [] σ8 (fun v σ' => v = none ∧ sg_F [45, 48, 53, 54] σ σ') := by
    intro m17
    induction m17 using Nat.strongRecOn with
    | _ m17 ih16 =>
      intro σ8 v7 hF9 hR19 hm20
      have hR19_i := sg_id (z := v7) (by omega)
      refine wk_b tt_158 1 (pc' := 9) (ls' := [(0, .inr (.inr (.ref 45))), (1, .inl (a1)), (2, .inl (v7))]) (st' := [.inl (v7)]) (σ' := σ8) rfl ?_
      refine wk_ifn tt_158 (tgt := 28) rfl rfl (fun h21 => ?_) (fun h21 => ?_)
      ·
        simp only [sg_c, sg_nc] at h21
        exact wk_ls [(0, .inr (.inr (.ref 45)))] rfl ⟨rfl, trivial⟩ (ex10 σ8 hF9)
      ·
        simp only [sg_c, sg_nc] at h21
        refine wk_b tt_158 4 (pc' := 16) (ls' := [(0, .inr (.inr (.ref 45))), (1, .inl (a1)), (2, .inl (v7))]) (st' := [.inl (v7), .inl (a1), .inr (.inr (.ref 45)), .inr (.inr (.ref 45))]) (σ' := σ8) rfl ?_
        refine wk_call tt_158 rfl rfl rfl rfl rfl tt_145 rfl (by decide) (bt_6 z σ8 (a1) (v7)) (fun w22 σ23 hq24 => ?_)
        obtain ⟨⟨q26, rfl⟩, hF25⟩ := hq24
        have hF27 := sg_F_t hF9 (sg_F_m (L := [45, 48, 53, 54]) hF25 rfl)
        refine wk_call tt_158 rfl rfl rfl rfl rfl tt_129 rfl (by decide) (bt_33 z σ23 (q26)) (fun w28 σ29 hq30 => ?_)
        obtain ⟨rfl, hF31⟩ := hq30
        have hF32 := sg_F_t hF27 (sg_F_m (L := [45, 48, 53, 54]) hF31 rfl)
        refine wk_b tt_158 2 (pc' := 8) (ls' := [(2, .inl ((v7 + (-1)))), (0, .inr (.inr (.ref 45))), (1, .inl (a1))]) (st' := []) (σ' := σ29) rfl ?_
        refine wk_ls [(0, .inr (.inr (.ref 45))), (1, .inl (a1)), (2, .inl ((v7 + (-1))))] rfl ⟨rfl, rfl, rfl, trivial⟩ (ih16 _ ?_ σ29 ((v7 + (-1))) hF32 ?_ rfl)
        · omega
        · omega
  refine wk_ls [(0, .inr (.inr (.ref 45))), (1, .inl (a1)), (2, .inl ((q5 - 1)))] rfl ⟨rfl, rfl, rfl, trivial⟩ ?_
  refine wk_eq (ls' := [(0, .inr (.inr (.ref 45))), (1, .inl (a1)), (2, .inl (sg_n ((q5 - 1))))]) (by simp only [bm_ls, List.map_cons, bm_v, sg_in]) rfl ?_
  exact lp18 _ σ2 (sg_n ((q5 - 1))) hF6 (sg_Rn _) rfl
-- NestedVectors$NestedRun.addAll x.nestedRun a1
set_option maxRecDepth 8000 in
theorem bt_37 (z : Value) (σ : sg_S) (a1 : Int) : wx z 2 130 0 [(0, .inr (.inr (.ref 45))), (1, .inl (a1))] [] σ (fun v σ' => v = none ∧ sg_F [45, 54] σ σ') := by
  have hF0 := sg_F_r [45, 54] σ
  refine wk_b tt_130 2 (pc' := 2) (ls' := [(2, .inl (0)), (0, .inr (.inr (.ref 45))), (1, .inl (a1))]) (st' := []) (σ' := σ) rfl ?_
  have ex4 : ∀ (σ2 : sg_S), sg_F [45, 54] σ σ2 → wx z 2 130 27 [] [] σ2 (fun v σ' => v = none ∧ sg_F [45, 54] σ σ') := by
    intro σ2 hF3
    exact wk_rV tt_130 rfl rfl ⟨rfl, hF3⟩
  have lp7 : ∀ (m6 : Nat) (σ2 : sg_S) (v1 : Int), sg_F [45, 54] σ σ2 → (sg_R v1) → (2147483647 - v1).toNat = m6 → wx z 2 130 2 [(0, .inr (.inr (.ref 45))), (1, .inl (a1)), (2, .inl (v1))] [] σ2 (fun v σ' => v = none ∧ sg_F [45, 54] σ σ') := by
    intro m6
    induction m6 using Nat.strongRecOn with
    | _ m6 ih5 =>
      intro σ2 v1 hF3 hR8 hm9
      have hR8_i := sg_id (z := v1) (by omega)
      refine wk_b tt_130 3 (pc' := 5) (ls' := [(0, .inr (.inr (.ref 45))), (1, .inl (a1)), (2, .inl (v1))]) (st' := [.inl (a1), .inr (.inr (.ref 45)), .inl (v1)]) (σ' := σ2) rfl ?_
      refine wk_call tt_130 rfl rfl rfl rfl rfl tt_149 rfl (by decide) (bt_4 z σ2 (a1)) (fun w10 σ11 hq12 => ?_)
      obtain ⟨⟨q14, rfl⟩, hF13⟩ := hq12
      have hF15 := sg_F_t hF3 (sg_F_m (L := [45, 54]) hF13 rfl)
      refine wk_if2n tt_130 (tgt := 27) rfl rfl (fun h16 => ?_) (fun h16 => ?_)
      ·
        have h16_r := sg_Rn (q14)
        have h16_q := sg_Rn (v1)
        simp only [sg_c, sg_nc] at h16
        exact wk_ls [] rfl trivial (ex4 σ11 hF15)
      ·
        have h16_r := sg_Rn (q14)
        have h16_q := sg_Rn (v1)
        simp only [sg_c, sg_nc] at h16
        refine wk_b tt_130 4 (pc' := 15) (ls' := [(0, .inr (.inr (.ref 45))), (1, .inl (a1)), (2, .inl (v1))]) (st' := [.inl (v1), .inl (a1), .inr (.inr (.ref 45)), .inr (.inr (.ref 45))]) (σ' := σ11) rfl ?_
        refine wk_call tt_130 rfl rfl rfl rfl rfl tt_145 rfl (by decide) (bt_6 z σ11 (a1) (v1)) (fun w17 σ18 hq19 => ?_)
        obtain ⟨⟨q21, rfl⟩, hF20⟩ := hq19
        have hF22 := sg_F_t hF15 (sg_F_m (L := [45, 54]) hF20 rfl)
        refine wk_call tt_130 rfl rfl rfl rfl rfl tt_129 rfl (by decide) (bt_33 z σ18 (q21)) (fun w23 σ24 hq25 => ?_)
        obtain ⟨rfl, hF26⟩ := hq25
        have hF27 := sg_F_t hF22 (sg_F_m (L := [45, 54]) hF26 rfl)
        refine wk_b tt_130 2 (pc' := 2) (ls' := [(2, .inl ((v1 + 1))), (0, .inr (.inr (.ref 45))), (1, .inl (a1))]) (st' := []) (σ' := σ24) rfl ?_
        refine wk_ls [(0, .inr (.inr (.ref 45))), (1, .inl (a1)), (2, .inl ((v1 + 1)))] rfl ⟨rfl, rfl, rfl, trivial⟩ (ih5 _ ?_ σ24 ((v1 + 1)) hF27 ?_ rfl)
        · omega
        · omega
  refine wk_ls [(0, .inr (.inr (.ref 45))), (1, .inl (a1)), (2, .inl (0))] rfl ⟨rfl, rfl, rfl, trivial⟩ ?_
  exact lp7 _ σ (0) hF0 (by omega) rfl
-- NestedVectors$NestedRun.flatten x.nestedRun a1
set_option maxRecDepth 8000 in
theorem bt_38 (z : Value) (σ : sg_S) (a1 : Int) : wx z 3 141 0 [(0, .inr (.inr (.ref 45))), (1, .inl (a1))] [] σ (fun v σ' => v = none ∧ sg_F [45, 48, 53, 54] σ σ') := by
  have hF0 := sg_F_r [45, 48, 53, 54] σ
  refine wk_b tt_141 4 (pc' := 4) (ls' := [(3, .inl (0)), (2, .inl (0)), (0, .inr (.inr (.ref 45))), (1, .inl (a1))]) (st' := []) (σ' := σ) rfl ?_
  have ex5 : ∀ (σ3 : sg_S) (v1 : Int), sg_F [45, 48, 53, 54] σ σ3 → wx z 3 141 32 [(0, .inr (.inr (.ref 45))), (1, .inl (a1)), (2, .inl (v1))] [] σ3 (fun v σ' => v = none ∧ sg_F [45, 48, 53, 54] σ σ') := by
    intro σ3 v1 hF4
    refine wk_b tt_141 1 (pc' := 33) (ls' := [(0, .inr (.inr (.ref 45))), (1, .inl (a1)), (2, .inl (v1))]) (st' := [.inl (v1)]) (σ' := σ3) rfl ?_
    refine wk_call tt_141 rfl rfl rfl rfl rfl tt_7 rfl (by decide) (bt_32 z σ3 (v1)) (fun w6 σ7 hq8 => ?_)
    obtain ⟨⟨q10, rfl, hq10⟩, hF9⟩ := hq8
    have hF11 := sg_F_t hF4 (sg_F_m (L := [45, 48, 53, 54]) hF9 rfl)
    refine wk_ifb tt_141 (tgt := 45) rfl rfl ?_ ?_
    ·
      refine wk_b tt_141 2 (pc' := 47) (ls' := [(3, .inl (0)), (0, .inr (.inr (.ref 45))), (1, .inl (a1)), (2, .inl (v1))]) (st' := []) (σ' := σ7) rfl ?_
      have ex16 : ∀ (σ14 : sg_S), sg_F [45, 48, 53, 54] σ σ14 → wx z 3 141 72 [(0, .inr (.inr (.ref 45)))] [] σ14 (fun v σ' => v = none ∧ sg_F [45, 48, 53, 54] σ σ') := by
        intro σ14 hF15
        refine wk_b tt_141 1 (pc' := 73) (ls' := [(0, .inr (.inr (.ref 45)))]) (st' := [.inr (.inr (.ref 45))]) (σ' := σ14) rfl ?_
        refine wk_call tt_141 rfl rfl rfl rfl rfl tt_144 rfl (by decide) (bt_27 z σ14) (fun w17 σ18 hq19 => ?_)
        obtain ⟨rfl, hF20⟩ := hq19
        have hF21 := sg_F_t hF15 (sg_F_m (L := [45, 48, 53, 54]) hF20 rfl)
        exact wk_rV tt_141 rfl rfl ⟨rfl, hF21⟩
      have lp24 : ∀ (m23 : Nat) (σ14 : sg_S) (v13 : Int), sg_F [45, 48, 53, 54] σ σ14 → (sg_R v13) → (2147483647 - v13).toNat = m23 → wx z 3 141 47 [(0, .inr (.inr (.ref 45))), (1, .inl (a1)), (3, .inl (v13))] [] σ14 (fun v σ' => v = none ∧ sg_F [45, 48, 53, 54] σ σ') := by
        intro m23
        induction m23 using Nat.strongRecOn with
        | _ m23 ih22 =>
          intro σ14 v13 hF15 hR25 hm26
          have hR25_i := sg_id (z := v13) (by omega)
          refine wk_b tt_141 3 (pc' := 50) (ls' := [(0, .inr (.inr (.ref 45))), (1, .inl (a1)), (3, .inl (v13))]) (st' := [.inl (a1), .inr (.inr (.ref 45)), .inl (v13)]) (σ' := σ14) rfl ?_
          refine wk_call tt_141 rfl rfl rfl rfl rfl tt_149 rfl (by decide) (bt_4 z σ14 (a1)) (fun w27 σ28 hq29 => ?_)
          obtain ⟨⟨q31, rfl⟩, hF30⟩ := hq29
          have hF32 := sg_F_t hF15 (sg_F_m (L := [45, 48, 53, 54]) hF30 rfl)
          refine wk_if2n tt_141 (tgt := 72) rfl rfl (fun h33 => ?_) (fun h33 => ?_)
          ·
            have h33_r := sg_Rn (q31)
            have h33_q := sg_Rn (v13)
            simp only [sg_c, sg_nc] at h33
            exact wk_ls [(0, .inr (.inr (.ref 45)))] rfl ⟨rfl, trivial⟩ (ex16 σ28 hF32)
          ·
            have h33_r := sg_Rn (q31)
            have h33_q := sg_Rn (v13)
            simp only [sg_c, sg_nc] at h33
            refine wk_b tt_141 4 (pc' := 60) (ls' := [(0, .inr (.inr (.ref 45))), (1, .inl (a1)), (3, .inl (v13))]) (st' := [.inl (v13), .inl (a1), .inr (.inr (.ref 45)), .inr (.inr (.ref 45))]) (σ' := σ28) rfl ?_
            refine wk_call tt_141 rfl rfl rfl rfl rfl tt_145 rfl (by decide) (bt_6 z σ28 (a1) (v13)) (fun w34 σ35 hq36 => ?_)
            obtain ⟨⟨q38, rfl⟩, hF37⟩ := hq36
            have hF39 := sg_F_t hF32 (sg_F_m (L := [45, 48, 53, 54]) hF37 rfl)
            refine wk_call tt_141 rfl rfl rfl rfl rfl tt_130 rfl (by decide) (bt_37 z σ35 (q38)) (fun w40 σ41 hq42 => ?_)
            obtain ⟨rfl, hF43⟩ := hq42
            have hF44 := sg_F_t hF39 (sg_F_m (L := [45, 48, 53, 54]) hF43 rfl)
            refine wk_b tt_141 2 (pc' := 47) (ls' := [(3, .inl ((v13 + 1))), (0, .inr (.inr (.ref 45))), (1, .inl (a1))]) (st' := []) (σ' := σ41) rfl ?_
            refine wk_ls [(0, .inr (.inr (.ref 45))), (1, .inl (a1)), (3, .inl ((v13 + 1)))] rfl ⟨rfl, rfl, rfl, trivial⟩ (ih22 _ ?_ σ41 ((v13 + 1)) hF44 ?_ rfl)
            · omega
            · omega
      refine wk_ls [(0, .inr (.inr (.ref 45))), (1, .inl (a1)), (3, .inl (0))] rfl ⟨rfl, rfl, rfl, trivial⟩ ?_
      exact lp24 _ σ7 (0) hF11 (by omega) rfl
    ·
      refine wk_b tt_141 3 (pc' := 44) (ls' := [(0, .inr (.inr (.ref 45))), (1, .inl (a1)), (2, .inl (v1))]) (st' := []) (σ' := (sg_w σ7 45 10 (5))) rfl ?_
      have hF45 : sg_F [45, 48, 53, 54] σ (sg_w σ7 45 10 (5)) := (sg_F_w hF11 rfl _)
      generalize (sg_w σ7 45 10 (5)) = σ46 at hF45 ⊢
      exact wk_rV tt_141 rfl rfl ⟨rfl, hF45⟩
  have lp49 : ∀ (m48 : Nat) (σ3 : sg_S) (v1 : Int) (v2 : Int), sg_F [45, 48, 53, 54] σ σ3 → (sg_R v2) → (2147483647 - v2).toNat = m48 → wx z 3 141 4 [(0, .inr (.inr (.ref 45))), (1, .inl (a1)), (2, .inl (v1)), (3, .inl (v2))] [] σ3 (fun v σ' => v = none ∧ sg_F [45, 48, 53, 54] σ σ') := by
    intro m48
    induction m48 using Nat.strongRecOn with
    | _ m48 ih47 =>
      intro σ3 v1 v2 hF4 hR50 hm51
      have hR50_i := sg_id (z := v2) (by omega)
      refine wk_b tt_141 3 (pc' := 7) (ls' := [(0, .inr (.inr (.ref 45))), (1, .inl (a1)), (2, .inl (v1)), (3, .inl (v2))]) (st' := [.inl (a1), .inr (.inr (.ref 45)), .inl (v2)]) (σ' := σ3) rfl ?_
      refine wk_call tt_141 rfl rfl rfl rfl rfl tt_149 rfl (by decide) (bt_4 z σ3 (a1)) (fun w52 σ53 hq54 => ?_)
      obtain ⟨⟨q56, rfl⟩, hF55⟩ := hq54
      have hF57 := sg_F_t hF4 (sg_F_m (L := [45, 48, 53, 54]) hF55 rfl)
      refine wk_if2n tt_141 (tgt := 32) rfl rfl (fun h58 => ?_) (fun h58 => ?_)
      ·
        have h58_r := sg_Rn (q56)
        have h58_q := sg_Rn (v2)
        simp only [sg_c, sg_nc] at h58
        exact wk_ls [(0, .inr (.inr (.ref 45))), (1, .inl (a1)), (2, .inl (v1))] rfl ⟨rfl, rfl, rfl, trivial⟩ (ex5 σ53 (v1) hF57)
      ·
        have h58_r := sg_Rn (q56)
        have h58_q := sg_Rn (v2)
        simp only [sg_c, sg_nc] at h58
        refine wk_b tt_141 5 (pc' := 18) (ls' := [(0, .inr (.inr (.ref 45))), (1, .inl (a1)), (2, .inl (v1)), (3, .inl (v2))]) (st' := [.inl (v2), .inl (a1), .inr (.inr (.ref 45)), .inr (.inr (.ref 45)), .inl (v1)]) (σ' := σ53) rfl ?_
        refine wk_call tt_141 rfl rfl rfl rfl rfl tt_145 rfl (by decide) (bt_6 z σ53 (a1) (v2)) (fun w59 σ60 hq61 => ?_)
        obtain ⟨⟨q63, rfl⟩, hF62⟩ := hq61
        have hF64 := sg_F_t hF57 (sg_F_m (L := [45, 48, 53, 54]) hF62 rfl)
        refine wk_call tt_141 rfl rfl rfl rfl rfl tt_149 rfl (by decide) (bt_4 z σ60 (q63)) (fun w65 σ66 hq67 => ?_)
        obtain ⟨⟨q69, rfl⟩, hF68⟩ := hq67
        have hF70 := sg_F_t hF64 (sg_F_m (L := [45, 48, 53, 54]) hF68 rfl)
        refine wk_b tt_141 4 (pc' := 4) (ls' := [(3, .inl ((v2 + 1))), (2, .inl ((v1 + q69))), (0, .inr (.inr (.ref 45))), (1, .inl (a1))]) (st' := []) (σ' := σ66) rfl ?_
        refine wk_ls [(0, .inr (.inr (.ref 45))), (1, .inl (a1)), (2, .inl ((v1 + q69))), (3, .inl ((v2 + 1)))] rfl ⟨rfl, rfl, rfl, rfl, trivial⟩ (ih47 _ ?_ σ66 ((v1 + q69)) ((v2 + 1)) hF70 ?_ rfl)
        · omega
        · omega
  refine wk_ls [(0, .inr (.inr (.ref 45))), (1, .inl (a1)), (2, .inl (0)), (3, .inl (0))] rfl ⟨rfl, rfl, rfl, rfl, trivial⟩ ?_
  exact lp49 _ σ (0) (0) hF0 (by omega) rfl
-- NestedVectors.fold a0 a1 a2
set_option maxRecDepth 8000 in
theorem bt_39 (z : Value) (σ : sg_S) (a0 : Int) (a1 : Int) (a2 : Int) : wx z 1 16 0 [(0, .inl (a0)), (1, .inl (a1)), (2, .inl (a2))] [] σ (fun v σ' => (∃ q, v = some (.inl q)) ∧ sg_F [] σ σ') := by
  have hF0 := sg_F_r [] σ
  refine wk_b tt_16 2 (pc' := 4) (ls' := [(0, .inl (a0)), (1, .inl (a1)), (2, .inl (a2))]) (st' := [.inl (269), .inl (a0)]) (σ' := σ) rfl ?_
  refine wk_if2b tt_16 (tgt := 13) rfl rfl ?_ ?_
  ·
    refine wk_b tt_16 2 (pc' := 17) (ls' := [(0, .inl (a0)), (1, .inl (a1)), (2, .inl (a2))]) (st' := [.inl (270), .inl (a0)]) (σ' := σ) rfl ?_
    refine wk_if2b tt_16 (tgt := 28) rfl rfl ?_ ?_
    ·
      refine wk_b tt_16 2 (pc' := 30) (ls' := [(0, .inl (a0)), (1, .inl (a1)), (2, .inl (a2))]) (st' := [.inl (a2), .inl (a1)]) (σ' := σ) rfl ?_
      refine wk_minb tt_16 rfl rfl (fun q => ?_)
      revert q; intro q3
      exact wk_rI tt_16 rfl rfl ⟨⟨_, rfl⟩, hF0⟩
    ·
      refine wk_b tt_16 2 (pc' := 22) (ls' := [(0, .inl (a0)), (1, .inl (a1)), (2, .inl (a2))]) (st' := [.inl (a2), .inl (a1)]) (σ' := σ) rfl ?_
      refine wk_maxb tt_16 rfl rfl (fun q => ?_)
      revert q; intro q4
      refine wk_b tt_16 1 (pc' := 33) (ls' := [(0, .inl (a0)), (1, .inl (a1)), (2, .inl (a2))]) (st' := [.inl (q4)]) (σ' := σ) rfl ?_
      exact wk_rI tt_16 rfl rfl ⟨⟨_, rfl⟩, hF0⟩
  ·
    refine wk_b tt_16 4 (pc' := 33) (ls' := [(0, .inl (a0)), (1, .inl (a1)), (2, .inl (a2))]) (st' := [.inl ((a1 + a2))]) (σ' := σ) rfl ?_
    exact wk_rI tt_16 rfl rfl ⟨⟨_, rfl⟩, hF0⟩
-- NestedVectors$NestedRun.reduce x.nestedRun a1 a2
set_option maxRecDepth 8000 in
theorem bt_40 (z : Value) (σ : sg_S) (a1 : Int) (a2 : Int) : wx z 2 156 0 [(0, .inr (.inr (.ref 45))), (1, .inl (a1)), (2, .inl (a2))] [] σ (fun v σ' => v = none ∧ sg_F [45, 48] σ σ') := by
  have hF0 := sg_F_r [45, 48] σ
  refine wk_b tt_156 2 (pc' := 2) (ls' := [(0, .inr (.inr (.ref 45))), (1, .inl (a1)), (2, .inl (a2))]) (st' := [.inl (a2), .inr (.inr (.ref 45))]) (σ' := σ) rfl ?_
  refine wk_call tt_156 rfl rfl rfl rfl rfl tt_149 rfl (by decide) (bt_4 z σ (a2)) (fun w1 σ2 hq3 => ?_)
  obtain ⟨⟨q5, rfl⟩, hF4⟩ := hq3
  have hF6 := sg_F_t hF0 (sg_F_m (L := [45, 48]) hF4 rfl)
  refine wk_b tt_156 2 (pc' := 7) (ls' := [(3, .inl (q5)), (0, .inr (.inr (.ref 45))), (1, .inl (a1)), (2, .inl (a2))]) (st' := [.inl (q5)]) (σ' := σ2) rfl ?_
  refine wk_ifb tt_156 (tgt := 23) rfl rfl ?_ ?_
  ·
    refine wk_b tt_156 1 (pc' := 24) (ls' := [(3, .inl (q5)), (0, .inr (.inr (.ref 45))), (1, .inl (a1)), (2, .inl (a2))]) (st' := [.inl (q5)]) (σ' := σ2) rfl ?_
    refine wk_ifb tt_156 (tgt := 31) rfl rfl ?_ ?_
    ·
      refine wk_b tt_156 3 (pc' := 34) (ls' := [(3, .inl (q5)), (0, .inr (.inr (.ref 45))), (1, .inl (a1)), (2, .inl (a2))]) (st' := [.inl (0), .inl (a2), .inr (.inr (.ref 45))]) (σ' := σ2) rfl ?_
      refine wk_call tt_156 rfl rfl rfl rfl rfl tt_145 rfl (by decide) (bt_6 z σ2 (a2) (0)) (fun w9 σ10 hq11 => ?_)
      obtain ⟨⟨q13, rfl⟩, hF12⟩ := hq11
      have hF14 := sg_F_t hF6 (sg_F_m (L := [45, 48]) hF12 rfl)
      refine wk_b tt_156 3 (pc' := 42) (ls' := [(5, .inl (1)), (4, .inl (q13)), (3, .inl (q5)), (0, .inr (.inr (.ref 45))), (1, .inl (a1)), (2, .inl (a2))]) (st' := []) (σ' := σ10) rfl ?_
      have ex19 : ∀ (σ17 : sg_S) (v15 : Int), sg_F [45, 48] σ σ17 → wx z 2 156 69 [(0, .inr (.inr (.ref 45))), (3, .inl (q5)), (4, .inl (v15))] [] σ17 (fun v σ' => v = none ∧ sg_F [45, 48] σ σ') := by
        intro σ17 v15 hF18
        refine wk_b tt_156 2 (pc' := 71) (ls' := [(0, .inr (.inr (.ref 45))), (3, .inl (q5)), (4, .inl (v15))]) (st' := [.inl (q5), .inr (.inr (.ref 45))]) (σ' := σ17) rfl ?_
        refine wk_call tt_156 rfl rfl rfl rfl rfl tt_162 rfl (by decide) (bt_20 z σ17 (q5)) (fun w20 σ21 hq22 => ?_)
        obtain ⟨⟨q24, rfl, hq24⟩, hF23⟩ := hq22
        have hF25 := sg_F_t hF18 (sg_F_m (L := [45, 48]) hF23 rfl)
        refine wk_ifb tt_156 (tgt := 83) rfl rfl ?_ ?_
        ·
          exact wk_rV tt_156 rfl rfl ⟨rfl, hF25⟩
        ·
          refine wk_b tt_156 2 (pc' := 80) (ls' := [(0, .inr (.inr (.ref 45))), (3, .inl (q5)), (4, .inl (v15))]) (st' := [.inl (v15), .inr (.inr (.ref 45))]) (σ' := σ21) rfl ?_
          refine wk_call tt_156 rfl rfl rfl rfl rfl tt_125 rfl (by decide) (bt_22 z σ21 (v15)) (fun w27 σ28 hq29 => ?_)
          obtain ⟨rfl, hF30⟩ := hq29
          have hF31 := sg_F_t hF25 (sg_F_m (L := [45, 48]) hF30 rfl)
          exact wk_rV tt_156 rfl rfl ⟨rfl, hF31⟩
      have lp34 : ∀ (m33 : Nat) (σ17 : sg_S) (v15 : Int) (v16 : Int), sg_F [45, 48] σ σ17 → (sg_R v16) → (2147483647 - v16).toNat = m33 → wx z 2 156 42 [(0, .inr (.inr (.ref 45))), (1, .inl (a1)), (2, .inl (a2)), (3, .inl (q5)), (4, .inl (v15)), (5, .inl (v16))] [] σ17 (fun v σ' => v = none ∧ sg_F [45, 48] σ σ') := by
        intro m33
        induction m33 using Nat.strongRecOn with
        | _ m33 ih32 =>
          intro σ17 v15 v16 hF18 hR35 hm36
          have hR35_i := sg_id (z := v16) (by omega)
          refine wk_b tt_156 2 (pc' := 45) (ls' := [(0, .inr (.inr (.ref 45))), (1, .inl (a1)), (2, .inl (a2)), (3, .inl (q5)), (4, .inl (v15)), (5, .inl (v16))]) (st' := [.inl (q5), .inl (v16)]) (σ' := σ17) rfl ?_
          refine wk_if2n tt_156 (tgt := 69) rfl rfl (fun h37 => ?_) (fun h37 => ?_)
          ·
            have h37_r := sg_Rn (q5)
            have h37_q := sg_Rn (v16)
            simp only [sg_c, sg_nc] at h37
            exact wk_ls [(0, .inr (.inr (.ref 45))), (3, .inl (q5)), (4, .inl (v15))] rfl ⟨rfl, rfl, rfl, trivial⟩ (ex19 σ17 (v15) hF18)
          ·
            have h37_r := sg_Rn (q5)
            have h37_q := sg_Rn (v16)
            simp only [sg_c, sg_nc] at h37
            refine wk_b tt_156 5 (pc' := 55) (ls' := [(0, .inr (.inr (.ref 45))), (1, .inl (a1)), (2, .inl (a2)), (3, .inl (q5)), (4, .inl (v15)), (5, .inl (v16))]) (st' := [.inl (v16), .inl (a2), .inr (.inr (.ref 45)), .inl (v15), .inl (a1)]) (σ' := σ17) rfl ?_
            refine wk_call tt_156 rfl rfl rfl rfl rfl tt_145 rfl (by decide) (bt_6 z σ17 (a2) (v16)) (fun w38 σ39 hq40 => ?_)
            obtain ⟨⟨q42, rfl⟩, hF41⟩ := hq40
            have hF43 := sg_F_t hF18 (sg_F_m (L := [45, 48]) hF41 rfl)
            refine wk_call tt_156 rfl rfl rfl rfl rfl tt_16 rfl (by decide) (bt_39 z σ39 (a1) (v15) (q42)) (fun w44 σ45 hq46 => ?_)
            obtain ⟨⟨q48, rfl⟩, hF47⟩ := hq46
            have hF49 := sg_F_t hF43 (sg_F_m (L := [45, 48]) hF47 rfl)
            refine wk_b tt_156 3 (pc' := 42) (ls' := [(5, .inl ((v16 + 1))), (4, .inl (q48)), (0, .inr (.inr (.ref 45))), (1, .inl (a1)), (2, .inl (a2)), (3, .inl (q5))]) (st' := []) (σ' := σ45) rfl ?_
            refine wk_ls [(0, .inr (.inr (.ref 45))), (1, .inl (a1)), (2, .inl (a2)), (3, .inl (q5)), (4, .inl (q48)), (5, .inl ((v16 + 1)))] rfl ⟨rfl, rfl, rfl, rfl, rfl, rfl, trivial⟩ (ih32 _ ?_ σ45 (q48) ((v16 + 1)) hF49 ?_ rfl)
            · omega
            · omega
      refine wk_ls [(0, .inr (.inr (.ref 45))), (1, .inl (a1)), (2, .inl (a2)), (3, .inl (q5)), (4, .inl (q13)), (5, .inl (1))] rfl ⟨rfl, rfl, rfl, rfl, rfl, rfl, trivial⟩ ?_
      exact lp34 _ σ10 (q13) (1) hF14 (by omega) rfl
    ·
      refine wk_b tt_156 5 (pc' := 42) (ls' := [(5, .inl (1)), (4, .inl (0)), (3, .inl (q5)), (0, .inr (.inr (.ref 45))), (1, .inl (a1)), (2, .inl (a2))]) (st' := []) (σ' := σ2) rfl ?_
      have ex54 : ∀ (σ52 : sg_S) (v50 : Int), sg_F [45, 48] σ σ52 → wx z 2 156 69 [(0, .inr (.inr (.ref 45))), (3, .inl (q5)), (4, .inl (v50))] [] σ52 (fun v σ' => v = none ∧ sg_F [45, 48] σ σ') := by
        intro σ52 v50 hF53
        refine wk_b tt_156 2 (pc' := 71) (ls' := [(0, .inr (.inr (.ref 45))), (3, .inl (q5)), (4, .inl (v50))]) (st' := [.inl (q5), .inr (.inr (.ref 45))]) (σ' := σ52) rfl ?_
        refine wk_call tt_156 rfl rfl rfl rfl rfl tt_162 rfl (by decide) (bt_20 z σ52 (q5)) (fun w55 σ56 hq57 => ?_)
        obtain ⟨⟨q59, rfl, hq59⟩, hF58⟩ := hq57
        have hF60 := sg_F_t hF53 (sg_F_m (L := [45, 48]) hF58 rfl)
        refine wk_ifb tt_156 (tgt := 83) rfl rfl ?_ ?_
        ·
          exact wk_rV tt_156 rfl rfl ⟨rfl, hF60⟩
        ·
          refine wk_b tt_156 2 (pc' := 80) (ls' := [(0, .inr (.inr (.ref 45))), (3, .inl (q5)), (4, .inl (v50))]) (st' := [.inl (v50), .inr (.inr (.ref 45))]) (σ' := σ56) rfl ?_
          refine wk_call tt_156 rfl rfl rfl rfl rfl tt_125 rfl (by decide) (bt_22 z σ56 (v50)) (fun w62 σ63 hq64 => ?_)
          obtain ⟨rfl, hF65⟩ := hq64
          have hF66 := sg_F_t hF60 (sg_F_m (L := [45, 48]) hF65 rfl)
          exact wk_rV tt_156 rfl rfl ⟨rfl, hF66⟩
      have lp69 : ∀ (m68 : Nat) (σ52 : sg_S) (v50 : Int) (v51 : Int), sg_F [45, 48] σ σ52 → (sg_R v51) → (2147483647 - v51).toNat = m68 → wx z 2 156 42 [(0, .inr (.inr (.ref 45))), (1, .inl (a1)), (2, .inl (a2)), (3, .inl (q5)), (4, .inl (v50)), (5, .inl (v51))] [] σ52 (fun v σ' => v = none ∧ sg_F [45, 48] σ σ') := by
        intro m68
        induction m68 using Nat.strongRecOn with
        | _ m68 ih67 =>
          intro σ52 v50 v51 hF53 hR70 hm71
          have hR70_i := sg_id (z := v51) (by omega)
          refine wk_b tt_156 2 (pc' := 45) (ls' := [(0, .inr (.inr (.ref 45))), (1, .inl (a1)), (2, .inl (a2)), (3, .inl (q5)), (4, .inl (v50)), (5, .inl (v51))]) (st' := [.inl (q5), .inl (v51)]) (σ' := σ52) rfl ?_
          refine wk_if2n tt_156 (tgt := 69) rfl rfl (fun h72 => ?_) (fun h72 => ?_)
          ·
            have h72_r := sg_Rn (q5)
            have h72_q := sg_Rn (v51)
            simp only [sg_c, sg_nc] at h72
            exact wk_ls [(0, .inr (.inr (.ref 45))), (3, .inl (q5)), (4, .inl (v50))] rfl ⟨rfl, rfl, rfl, trivial⟩ (ex54 σ52 (v50) hF53)
          ·
            have h72_r := sg_Rn (q5)
            have h72_q := sg_Rn (v51)
            simp only [sg_c, sg_nc] at h72
            refine wk_b tt_156 5 (pc' := 55) (ls' := [(0, .inr (.inr (.ref 45))), (1, .inl (a1)), (2, .inl (a2)), (3, .inl (q5)), (4, .inl (v50)), (5, .inl (v51))]) (st' := [.inl (v51), .inl (a2), .inr (.inr (.ref 45)), .inl (v50), .inl (a1)]) (σ' := σ52) rfl ?_
            refine wk_call tt_156 rfl rfl rfl rfl rfl tt_145 rfl (by decide) (bt_6 z σ52 (a2) (v51)) (fun w73 σ74 hq75 => ?_)
            obtain ⟨⟨q77, rfl⟩, hF76⟩ := hq75
            have hF78 := sg_F_t hF53 (sg_F_m (L := [45, 48]) hF76 rfl)
            refine wk_call tt_156 rfl rfl rfl rfl rfl tt_16 rfl (by decide) (bt_39 z σ74 (a1) (v50) (q77)) (fun w79 σ80 hq81 => ?_)
            obtain ⟨⟨q83, rfl⟩, hF82⟩ := hq81
            have hF84 := sg_F_t hF78 (sg_F_m (L := [45, 48]) hF82 rfl)
            refine wk_b tt_156 3 (pc' := 42) (ls' := [(5, .inl ((v51 + 1))), (4, .inl (q83)), (0, .inr (.inr (.ref 45))), (1, .inl (a1)), (2, .inl (a2)), (3, .inl (q5))]) (st' := []) (σ' := σ80) rfl ?_
            refine wk_ls [(0, .inr (.inr (.ref 45))), (1, .inl (a1)), (2, .inl (a2)), (3, .inl (q5)), (4, .inl (q83)), (5, .inl ((v51 + 1)))] rfl ⟨rfl, rfl, rfl, rfl, rfl, rfl, trivial⟩ (ih67 _ ?_ σ80 (q83) ((v51 + 1)) hF84 ?_ rfl)
            · omega
            · omega
      refine wk_ls [(0, .inr (.inr (.ref 45))), (1, .inl (a1)), (2, .inl (a2)), (3, .inl (q5)), (4, .inl (0)), (5, .inl (1))] rfl ⟨rfl, rfl, rfl, rfl, rfl, rfl, trivial⟩ ?_
      exact lp69 _ σ2 (0) (1) hF6 (by omega) rfl
  ·
    refine wk_b tt_156 2 (pc' := 14) (ls' := [(3, .inl (q5)), (0, .inr (.inr (.ref 45))), (1, .inl (a1)), (2, .inl (a2))]) (st' := [.inl (269), .inl (a1)]) (σ' := σ2) rfl ?_
    refine wk_if2b tt_156 (tgt := 23) rfl rfl ?_ ?_
    ·
      refine wk_b tt_156 1 (pc' := 24) (ls' := [(3, .inl (q5)), (0, .inr (.inr (.ref 45))), (1, .inl (a1)), (2, .inl (a2))]) (st' := [.inl (q5)]) (σ' := σ2) rfl ?_
      refine wk_ifb tt_156 (tgt := 31) rfl rfl ?_ ?_
      ·
        refine wk_b tt_156 3 (pc' := 34) (ls' := [(3, .inl (q5)), (0, .inr (.inr (.ref 45))), (1, .inl (a1)), (2, .inl (a2))]) (st' := [.inl (0), .inl (a2), .inr (.inr (.ref 45))]) (σ' := σ2) rfl ?_
        refine wk_call tt_156 rfl rfl rfl rfl rfl tt_145 rfl (by decide) (bt_6 z σ2 (a2) (0)) (fun w87 σ88 hq89 => ?_)
        obtain ⟨⟨q91, rfl⟩, hF90⟩ := hq89
        have hF92 := sg_F_t hF6 (sg_F_m (L := [45, 48]) hF90 rfl)
        refine wk_b tt_156 3 (pc' := 42) (ls' := [(5, .inl (1)), (4, .inl (q91)), (3, .inl (q5)), (0, .inr (.inr (.ref 45))), (1, .inl (a1)), (2, .inl (a2))]) (st' := []) (σ' := σ88) rfl ?_
        have ex97 : ∀ (σ95 : sg_S) (v93 : Int), sg_F [45, 48] σ σ95 → wx z 2 156 69 [(0, .inr (.inr (.ref 45))), (3, .inl (q5)), (4, .inl (v93))] [] σ95 (fun v σ' => v = none ∧ sg_F [45, 48] σ σ') := by
          intro σ95 v93 hF96
          refine wk_b tt_156 2 (pc' := 71) (ls' := [(0, .inr (.inr (.ref 45))), (3, .inl (q5)), (4, .inl (v93))]) (st' := [.inl (q5), .inr (.inr (.ref 45))]) (σ' := σ95) rfl ?_
          refine wk_call tt_156 rfl rfl rfl rfl rfl tt_162 rfl (by decide) (bt_20 z σ95 (q5)) (fun w98 σ99 hq100 => ?_)
          obtain ⟨⟨q102, rfl, hq102⟩, hF101⟩ := hq100
          have hF103 := sg_F_t hF96 (sg_F_m (L := [45, 48]) hF101 rfl)
          refine wk_ifb tt_156 (tgt := 83) rfl rfl ?_ ?_
          ·
            exact wk_rV tt_156 rfl rfl ⟨rfl, hF103⟩
          ·
            refine wk_b tt_156 2 (pc' := 80) (ls' := [(0, .inr (.inr (.ref 45))), (3, .inl (q5)), (4, .inl (v93))]) (st' := [.inl (v93), .inr (.inr (.ref 45))]) (σ' := σ99) rfl ?_
            refine wk_call tt_156 rfl rfl rfl rfl rfl tt_125 rfl (by decide) (bt_22 z σ99 (v93)) (fun w105 σ106 hq107 => ?_)
            obtain ⟨rfl, hF108⟩ := hq107
            have hF109 := sg_F_t hF103 (sg_F_m (L := [45, 48]) hF108 rfl)
            exact wk_rV tt_156 rfl rfl ⟨rfl, hF109⟩
        have lp112 : ∀ (m111 : Nat) (σ95 : sg_S) (v93 : Int) (v94 : Int), sg_F [45, 48] σ σ95 → (sg_R v94) → (2147483647 - v94).toNat = m111 → wx z 2 156 42 [(0, .inr (.inr (.ref 45))), (1, .inl (a1)), (2, .inl (a2)), (3, .inl (q5)), (4, .inl (v93)), (5, .inl (v94))] [] σ95 (fun v σ' => v = none ∧ sg_F [45, 48] σ σ') := by
          intro m111
          induction m111 using Nat.strongRecOn with
          | _ m111 ih110 =>
            intro σ95 v93 v94 hF96 hR113 hm114
            have hR113_i := sg_id (z := v94) (by omega)
            refine wk_b tt_156 2 (pc' := 45) (ls' := [(0, .inr (.inr (.ref 45))), (1, .inl (a1)), (2, .inl (a2)), (3, .inl (q5)), (4, .inl (v93)), (5, .inl (v94))]) (st' := [.inl (q5), .inl (v94)]) (σ' := σ95) rfl ?_
            refine wk_if2n tt_156 (tgt := 69) rfl rfl (fun h115 => ?_) (fun h115 => ?_)
            ·
              have h115_r := sg_Rn (q5)
              have h115_q := sg_Rn (v94)
              simp only [sg_c, sg_nc] at h115
              exact wk_ls [(0, .inr (.inr (.ref 45))), (3, .inl (q5)), (4, .inl (v93))] rfl ⟨rfl, rfl, rfl, trivial⟩ (ex97 σ95 (v93) hF96)
            ·
              have h115_r := sg_Rn (q5)
              have h115_q := sg_Rn (v94)
              simp only [sg_c, sg_nc] at h115
              refine wk_b tt_156 5 (pc' := 55) (ls' := [(0, .inr (.inr (.ref 45))), (1, .inl (a1)), (2, .inl (a2)), (3, .inl (q5)), (4, .inl (v93)), (5, .inl (v94))]) (st' := [.inl (v94), .inl (a2), .inr (.inr (.ref 45)), .inl (v93), .inl (a1)]) (σ' := σ95) rfl ?_
              refine wk_call tt_156 rfl rfl rfl rfl rfl tt_145 rfl (by decide) (bt_6 z σ95 (a2) (v94)) (fun w116 σ117 hq118 => ?_)
              obtain ⟨⟨q120, rfl⟩, hF119⟩ := hq118
              have hF121 := sg_F_t hF96 (sg_F_m (L := [45, 48]) hF119 rfl)
              refine wk_call tt_156 rfl rfl rfl rfl rfl tt_16 rfl (by decide) (bt_39 z σ117 (a1) (v93) (q120)) (fun w122 σ123 hq124 => ?_)
              obtain ⟨⟨q126, rfl⟩, hF125⟩ := hq124
              have hF127 := sg_F_t hF121 (sg_F_m (L := [45, 48]) hF125 rfl)
              refine wk_b tt_156 3 (pc' := 42) (ls' := [(5, .inl ((v94 + 1))), (4, .inl (q126)), (0, .inr (.inr (.ref 45))), (1, .inl (a1)), (2, .inl (a2)), (3, .inl (q5))]) (st' := []) (σ' := σ123) rfl ?_
              refine wk_ls [(0, .inr (.inr (.ref 45))), (1, .inl (a1)), (2, .inl (a2)), (3, .inl (q5)), (4, .inl (q126)), (5, .inl ((v94 + 1)))] rfl ⟨rfl, rfl, rfl, rfl, rfl, rfl, trivial⟩ (ih110 _ ?_ σ123 (q126) ((v94 + 1)) hF127 ?_ rfl)
              · omega
              · omega
        refine wk_ls [(0, .inr (.inr (.ref 45))), (1, .inl (a1)), (2, .inl (a2)), (3, .inl (q5)), (4, .inl (q91)), (5, .inl (1))] rfl ⟨rfl, rfl, rfl, rfl, rfl, rfl, trivial⟩ ?_
        exact lp112 _ σ88 (q91) (1) hF92 (by omega) rfl
      ·
        refine wk_b tt_156 5 (pc' := 42) (ls' := [(5, .inl (1)), (4, .inl (0)), (3, .inl (q5)), (0, .inr (.inr (.ref 45))), (1, .inl (a1)), (2, .inl (a2))]) (st' := []) (σ' := σ2) rfl ?_
        have ex132 : ∀ (σ130 : sg_S) (v128 : Int), sg_F [45, 48] σ σ130 → wx z 2 156 69 [(0, .inr (.inr (.ref 45))), (3, .inl (q5)), (4, .inl (v128))] [] σ130 (fun v σ' => v = none ∧ sg_F [45, 48] σ σ') := by
          intro σ130 v128 hF131
          refine wk_b tt_156 2 (pc' := 71) (ls' := [(0, .inr (.inr (.ref 45))), (3, .inl (q5)), (4, .inl (v128))]) (st' := [.inl (q5), .inr (.inr (.ref 45))]) (σ' := σ130) rfl ?_
          refine wk_call tt_156 rfl rfl rfl rfl rfl tt_162 rfl (by decide) (bt_20 z σ130 (q5)) (fun w133 σ134 hq135 => ?_)
          obtain ⟨⟨q137, rfl, hq137⟩, hF136⟩ := hq135
          have hF138 := sg_F_t hF131 (sg_F_m (L := [45, 48]) hF136 rfl)
          refine wk_ifb tt_156 (tgt := 83) rfl rfl ?_ ?_
          ·
            exact wk_rV tt_156 rfl rfl ⟨rfl, hF138⟩
          ·
            refine wk_b tt_156 2 (pc' := 80) (ls' := [(0, .inr (.inr (.ref 45))), (3, .inl (q5)), (4, .inl (v128))]) (st' := [.inl (v128), .inr (.inr (.ref 45))]) (σ' := σ134) rfl ?_
            refine wk_call tt_156 rfl rfl rfl rfl rfl tt_125 rfl (by decide) (bt_22 z σ134 (v128)) (fun w140 σ141 hq142 => ?_)
            obtain ⟨rfl, hF143⟩ := hq142
            have hF144 := sg_F_t hF138 (sg_F_m (L := [45, 48]) hF143 rfl)
            exact wk_rV tt_156 rfl rfl ⟨rfl, hF144⟩
        have lp147 : ∀ (m146 : Nat) (σ130 : sg_S) (v128 : Int) (v129 : Int), sg_F [45, 48] σ σ130 → (sg_R v129) → (2147483647 - v129).toNat = m146 → wx z 2 156 42 [(0, .inr (.inr (.ref 45))), (1, .inl (a1)), (2, .inl (a2)), (3, .inl (q5)), (4, .inl (v128)), (5, .inl (v129))] [] σ130 (fun v σ' => v = none ∧ sg_F [45, 48] σ σ') := by
          intro m146
          induction m146 using Nat.strongRecOn with
          | _ m146 ih145 =>
            intro σ130 v128 v129 hF131 hR148 hm149
            have hR148_i := sg_id (z := v129) (by omega)
            refine wk_b tt_156 2 (pc' := 45) (ls' := [(0, .inr (.inr (.ref 45))), (1, .inl (a1)), (2, .inl (a2)), (3, .inl (q5)), (4, .inl (v128)), (5, .inl (v129))]) (st' := [.inl (q5), .inl (v129)]) (σ' := σ130) rfl ?_
            refine wk_if2n tt_156 (tgt := 69) rfl rfl (fun h150 => ?_) (fun h150 => ?_)
            ·
              have h150_r := sg_Rn (q5)
              have h150_q := sg_Rn (v129)
              simp only [sg_c, sg_nc] at h150
              exact wk_ls [(0, .inr (.inr (.ref 45))), (3, .inl (q5)), (4, .inl (v128))] rfl ⟨rfl, rfl, rfl, trivial⟩ (ex132 σ130 (v128) hF131)
            ·
              have h150_r := sg_Rn (q5)
              have h150_q := sg_Rn (v129)
              simp only [sg_c, sg_nc] at h150
              refine wk_b tt_156 5 (pc' := 55) (ls' := [(0, .inr (.inr (.ref 45))), (1, .inl (a1)), (2, .inl (a2)), (3, .inl (q5)), (4, .inl (v128)), (5, .inl (v129))]) (st' := [.inl (v129), .inl (a2), .inr (.inr (.ref 45)), .inl (v128), .inl (a1)]) (σ' := σ130) rfl ?_
              refine wk_call tt_156 rfl rfl rfl rfl rfl tt_145 rfl (by decide) (bt_6 z σ130 (a2) (v129)) (fun w151 σ152 hq153 => ?_)
              obtain ⟨⟨q155, rfl⟩, hF154⟩ := hq153
              have hF156 := sg_F_t hF131 (sg_F_m (L := [45, 48]) hF154 rfl)
              refine wk_call tt_156 rfl rfl rfl rfl rfl tt_16 rfl (by decide) (bt_39 z σ152 (a1) (v128) (q155)) (fun w157 σ158 hq159 => ?_)
              obtain ⟨⟨q161, rfl⟩, hF160⟩ := hq159
              have hF162 := sg_F_t hF156 (sg_F_m (L := [45, 48]) hF160 rfl)
              refine wk_b tt_156 3 (pc' := 42) (ls' := [(5, .inl ((v129 + 1))), (4, .inl (q161)), (0, .inr (.inr (.ref 45))), (1, .inl (a1)), (2, .inl (a2)), (3, .inl (q5))]) (st' := []) (σ' := σ158) rfl ?_
              refine wk_ls [(0, .inr (.inr (.ref 45))), (1, .inl (a1)), (2, .inl (a2)), (3, .inl (q5)), (4, .inl (q161)), (5, .inl ((v129 + 1)))] rfl ⟨rfl, rfl, rfl, rfl, rfl, rfl, trivial⟩ (ih145 _ ?_ σ158 (q161) ((v129 + 1)) hF162 ?_ rfl)
              · omega
              · omega
        refine wk_ls [(0, .inr (.inr (.ref 45))), (1, .inl (a1)), (2, .inl (a2)), (3, .inl (q5)), (4, .inl (0)), (5, .inl (1))] rfl ⟨rfl, rfl, rfl, rfl, rfl, rfl, trivial⟩ ?_
        exact lp147 _ σ2 (0) (1) hF6 (by omega) rfl
    ·
      refine wk_b tt_156 3 (pc' := 22) (ls' := [(3, .inl (q5)), (0, .inr (.inr (.ref 45))), (1, .inl (a1)), (2, .inl (a2))]) (st' := []) (σ' := (sg_w σ2 45 10 (4))) rfl ?_
      have hF163 : sg_F [45, 48] σ (sg_w σ2 45 10 (4)) := (sg_F_w hF6 rfl _)
      generalize (sg_w σ2 45 10 (4)) = σ164 at hF163 ⊢
      exact wk_rV tt_156 rfl rfl ⟨rfl, hF163⟩
-- NestedVectors$Machine.finishOne x.nestedRun a1
set_option maxRecDepth 8000 in
theorem bt_41 (z : Value) (σ : sg_S) (a1 : Int) : wx z 4 121 0 [(0, .inr (.inr (.ref 45))), (1, .inl (a1))] [] σ (fun v σ' => v = none ∧ sg_F [45, 48, 53, 54] σ σ') := by
  have hF0 := sg_F_r [45, 48, 53, 54] σ
  refine wk_b tt_121 4 (pc' := 8) (ls' := [(0, .inr (.inr (.ref 45))), (1, .inl (a1))]) (st' := [.inl (a1), .inr (.inr (.ref 3))]) (σ' := σ) rfl ?_
  refine wk_callp tt_121 rfl rfl rfl rfl rfl tt_5 rfl (by decide) (at_i z σ 3 200 (a1) rfl (by decide)) ?_
  generalize sx_at σ 3 200 (sg_n (a1)) = q4
  refine wk_b tt_121 2 (pc' := 13) (ls' := [(2, .inl (q4)), (0, .inr (.inr (.ref 45))), (1, .inl (a1))]) (st' := [.inr (.inr (.ref 45))]) (σ' := σ) rfl ?_
  refine wk_call tt_121 rfl rfl rfl rfl rfl tt_124 rfl (by decide) (bt_3 z σ) (fun w5 σ6 hq7 => ?_)
  obtain ⟨⟨q9, rfl⟩, hF8⟩ := hq7
  have hF10 := sg_F_t hF0 (sg_F_m (L := [45, 48, 53, 54]) hF8 rfl)
  refine wk_b tt_121 6 (pc' := 26) (ls' := [(3, .inl (q9)), (2, .inl (q4)), (0, .inr (.inr (.ref 45))), (1, .inl (a1))]) (st' := [.inl (a1), .inr (.inr (.ref 6)), .inr (.inr (.ref 45))]) (σ' := σ6) rfl ?_
  refine wk_callp tt_121 rfl rfl rfl rfl rfl tt_5 rfl (by decide) (at_i z σ6 6 200 (a1) rfl (by decide)) ?_
  generalize sx_at σ6 6 200 (sg_n (a1)) = q14
  refine wk_b tt_121 2 (pc' := 33) (ls' := [(3, .inl (q9)), (2, .inl (q4)), (0, .inr (.inr (.ref 45))), (1, .inl (a1))]) (st' := [.inl (q4)]) (σ' := (sg_w σ6 45 9 (q14))) rfl ?_
  have hF15 : sg_F [45, 48, 53, 54] σ (sg_w σ6 45 9 (q14)) := (sg_F_w hF10 rfl _)
  generalize (sg_w σ6 45 9 (q14)) = σ16 at hF15 ⊢
  have k17 : wx z 4 121 84 [(3, .inl (q9)), (2, .inl (q4)), (0, .inr (.inr (.ref 45))), (1, .inl (a1))] [] σ16 (fun v σ' => v = none ∧ sg_F [45, 48, 53, 54] σ σ') := by
    refine wk_b tt_121 2 (pc' := 86) (ls' := [(3, .inl (q9)), (2, .inl (q4)), (0, .inr (.inr (.ref 45))), (1, .inl (a1))]) (st' := [.inl (q9), .inr (.inr (.ref 45))]) (σ' := σ16) rfl ?_
    refine wk_call tt_121 rfl rfl rfl rfl rfl tt_150 rfl (by decide) (bt_31 z σ16 (q9)) (fun w18 σ19 hq20 => ?_)
    obtain ⟨rfl, hF21⟩ := hq20
    have hF22 := sg_F_t hF15 (sg_F_m (L := [45, 48, 53, 54]) hF21 rfl)
    refine wk_b tt_121 1 (pc' := 130) (ls' := [(3, .inl (q9)), (2, .inl (q4)), (0, .inr (.inr (.ref 45))), (1, .inl (a1))]) (st' := []) (σ' := σ19) rfl ?_
    exact wk_rV tt_121 rfl rfl ⟨rfl, hF22⟩
  have k23 : wx z 4 121 92 [(3, .inl (q9)), (2, .inl (q4)), (0, .inr (.inr (.ref 45))), (1, .inl (a1))] [] σ16 (fun v σ' => v = none ∧ sg_F [45, 48, 53, 54] σ σ') := by
    refine wk_b tt_121 2 (pc' := 94) (ls' := [(3, .inl (q9)), (2, .inl (q4)), (0, .inr (.inr (.ref 45))), (1, .inl (a1))]) (st' := [.inl (q9), .inr (.inr (.ref 45))]) (σ' := σ16) rfl ?_
    refine wk_call tt_121 rfl rfl rfl rfl rfl tt_137 rfl (by decide) (bt_34 z σ16 (q9)) (fun w24 σ25 hq26 => ?_)
    obtain ⟨rfl, hF27⟩ := hq26
    have hF28 := sg_F_t hF15 (sg_F_m (L := [45, 48, 53, 54]) hF27 rfl)
    refine wk_b tt_121 1 (pc' := 130) (ls' := [(3, .inl (q9)), (2, .inl (q4)), (0, .inr (.inr (.ref 45))), (1, .inl (a1))]) (st' := []) (σ' := σ25) rfl ?_
    exact wk_rV tt_121 rfl rfl ⟨rfl, hF28⟩
  have k29 : wx z 4 121 100 [(3, .inl (q9)), (2, .inl (q4)), (0, .inr (.inr (.ref 45))), (1, .inl (a1))] [] σ16 (fun v σ' => v = none ∧ sg_F [45, 48, 53, 54] σ σ') := by
    refine wk_b tt_121 2 (pc' := 102) (ls' := [(3, .inl (q9)), (2, .inl (q4)), (0, .inr (.inr (.ref 45))), (1, .inl (a1))]) (st' := [.inl (q9), .inr (.inr (.ref 45))]) (σ' := σ16) rfl ?_
    refine wk_call tt_121 rfl rfl rfl rfl rfl tt_163 rfl (by decide) (bt_35 z σ16 (q9)) (fun w30 σ31 hq32 => ?_)
    obtain ⟨rfl, hF33⟩ := hq32
    have hF34 := sg_F_t hF15 (sg_F_m (L := [45, 48, 53, 54]) hF33 rfl)
    refine wk_b tt_121 1 (pc' := 130) (ls' := [(3, .inl (q9)), (2, .inl (q4)), (0, .inr (.inr (.ref 45))), (1, .inl (a1))]) (st' := []) (σ' := σ31) rfl ?_
    exact wk_rV tt_121 rfl rfl ⟨rfl, hF34⟩
  have k35 : wx z 4 121 108 [(3, .inl (q9)), (2, .inl (q4)), (0, .inr (.inr (.ref 45))), (1, .inl (a1))] [] σ16 (fun v σ' => v = none ∧ sg_F [45, 48, 53, 54] σ σ') := by
    refine wk_b tt_121 2 (pc' := 110) (ls' := [(3, .inl (q9)), (2, .inl (q4)), (0, .inr (.inr (.ref 45))), (1, .inl (a1))]) (st' := [.inl (q9), .inr (.inr (.ref 45))]) (σ' := σ16) rfl ?_
    refine wk_call tt_121 rfl rfl rfl rfl rfl tt_158 rfl (by decide) (bt_36 z σ16 (q9)) (fun w36 σ37 hq38 => ?_)
    obtain ⟨rfl, hF39⟩ := hq38
    have hF40 := sg_F_t hF15 (sg_F_m (L := [45, 48, 53, 54]) hF39 rfl)
    refine wk_b tt_121 1 (pc' := 130) (ls' := [(3, .inl (q9)), (2, .inl (q4)), (0, .inr (.inr (.ref 45))), (1, .inl (a1))]) (st' := []) (σ' := σ37) rfl ?_
    exact wk_rV tt_121 rfl rfl ⟨rfl, hF40⟩
  have k41 : wx z 4 121 116 [(3, .inl (q9)), (2, .inl (q4)), (0, .inr (.inr (.ref 45))), (1, .inl (a1))] [] σ16 (fun v σ' => v = none ∧ sg_F [45, 48, 53, 54] σ σ') := by
    refine wk_b tt_121 2 (pc' := 118) (ls' := [(3, .inl (q9)), (2, .inl (q4)), (0, .inr (.inr (.ref 45))), (1, .inl (a1))]) (st' := [.inl (q9), .inr (.inr (.ref 45))]) (σ' := σ16) rfl ?_
    refine wk_call tt_121 rfl rfl rfl rfl rfl tt_141 rfl (by decide) (bt_38 z σ16 (q9)) (fun w42 σ43 hq44 => ?_)
    obtain ⟨rfl, hF45⟩ := hq44
    have hF46 := sg_F_t hF15 (sg_F_m (L := [45, 48, 53, 54]) hF45 rfl)
    refine wk_b tt_121 1 (pc' := 130) (ls' := [(3, .inl (q9)), (2, .inl (q4)), (0, .inr (.inr (.ref 45))), (1, .inl (a1))]) (st' := []) (σ' := σ43) rfl ?_
    exact wk_rV tt_121 rfl rfl ⟨rfl, hF46⟩
  have k47 : wx z 4 121 124 [(3, .inl (q9)), (2, .inl (q4)), (0, .inr (.inr (.ref 45))), (1, .inl (a1))] [] σ16 (fun v σ' => v = none ∧ sg_F [45, 48, 53, 54] σ σ') := by
    refine wk_b tt_121 3 (pc' := 127) (ls' := [(3, .inl (q9)), (2, .inl (q4)), (0, .inr (.inr (.ref 45))), (1, .inl (a1))]) (st' := [.inl (q9), .inl (q4), .inr (.inr (.ref 45))]) (σ' := σ16) rfl ?_
    refine wk_call tt_121 rfl rfl rfl rfl rfl tt_156 rfl (by decide) (bt_40 z σ16 (q4) (q9)) (fun w48 σ49 hq50 => ?_)
    obtain ⟨rfl, hF51⟩ := hq50
    have hF52 := sg_F_t hF15 (sg_F_m (L := [45, 48, 53, 54]) hF51 rfl)
    exact wk_rV tt_121 rfl rfl ⟨rfl, hF52⟩
  refine wk_n ?_
  have hx54 := sg_Rn (q4)
  generalize sg_n (q4) = x53 at hx54 ⊢
  by_cases e55 : x53 = 35
  · exact wk_lw tt_121 (off := 51) (tgt := 84) rfl (by decide) hx54 (by rw [e55]; decide) rfl k17
  by_cases e56 : x53 = 267
  · exact wk_lw tt_121 (off := 59) (tgt := 92) rfl (by decide) hx54 (by rw [e56]; decide) rfl k23
  by_cases e57 : x53 = 272
  · exact wk_lw tt_121 (off := 67) (tgt := 100) rfl (by decide) hx54 (by rw [e57]; decide) rfl k29
  by_cases e58 : x53 = 273
  · exact wk_lw tt_121 (off := 75) (tgt := 108) rfl (by decide) hx54 (by rw [e58]; decide) rfl k35
  by_cases e59 : x53 = 275
  · exact wk_lw tt_121 (off := 83) (tgt := 116) rfl (by decide) hx54 (by rw [e59]; decide) rfl k41
  exact wk_lw tt_121 (off := 91) (tgt := 124) rfl (by decide) hx54 (by simp only [Op.lookupswitch.offset]; repeat (rw [if_neg (by omega)])) rfl k47
