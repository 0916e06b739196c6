/-! The end of a flat run of the class (1): it ends, and but for its cells all is as it was. -/
-- NestedVectors$Image.clear x.flatRun.image
set_option maxRecDepth 8000 in
theorem bw_0 (z : Value) (σ : sg_S) : wx z 0 92 0 [(0, .inr (.inr (.ref 65)))] [] σ (fun v σ' => v = none ∧ sg_F [65] σ σ') := by
  have hF0 := sg_F_r [65] σ
  refine wk_b tt_92 6 (pc' := 10) (ls' := [(0, .inr (.inr (.ref 65)))]) (st' := []) (σ' := (sg_w (sg_w σ 65 2 (0)) 65 5 (0))) rfl ?_
  have hF1 : sg_F [65] σ (sg_w (sg_w σ 65 2 (0)) 65 5 (0)) := (sg_F_w (sg_F_w hF0 rfl _) rfl _)
  generalize (sg_w (sg_w σ 65 2 (0)) 65 5 (0)) = σ2 at hF1 ⊢
  exact wk_rV tt_92 rfl rfl ⟨rfl, hF1⟩
-- NestedVectors$Machine.pop x.flatRun
set_option maxRecDepth 8000 in
theorem bw_1 (z : Value) (σ : sg_S) : wx z 1 124 0 [(0, .inr (.inr (.ref 61)))] [] σ (fun v σ' => (∃ q, v = some (.inl q)) ∧ sg_F [61] σ σ') := by
  have hF0 := sg_F_r [61] σ
  refine wk_b tt_124 10 (pc' := 18) (ls' := [(0, .inr (.inr (.ref 61)))]) (st' := [.inl ((sg_g (sg_w σ 61 7 (((sg_g σ 61 7) - 1))) 61 7)), .inr (.inr (.ref 64))]) (σ' := (sg_w σ 61 7 (((sg_g σ 61 7) - 1)))) rfl ?_
  have hF1 : sg_F [61] σ (sg_w σ 61 7 (((sg_g σ 61 7) - 1))) := (sg_F_w hF0 rfl _)
  generalize (sg_w σ 61 7 (((sg_g σ 61 7) - 1))) = σ2 at hF1 ⊢
  refine wk_callp tt_124 rfl rfl rfl rfl rfl tt_5 rfl (by decide) (at_i z σ2 64 400 ((sg_g σ2 61 7)) rfl (by decide)) ?_
  generalize sx_at σ2 64 400 (sg_n ((sg_g σ2 61 7))) = q6
  exact wk_rI tt_124 rfl rfl ⟨⟨_, rfl⟩, hF1⟩
-- NestedVectors$Lanes.cell x.flatRun.rows a1 a2
set_option maxRecDepth 8000 in
theorem bw_2 (z : Value) (σ : sg_S) (a1 : Int) (a2 : Int) : wx z 0 100 0 [(0, .inr (.inr (.ref 77))), (1, .inl (a1)), (2, .inl (a2))] [] σ (fun v σ' => (∃ q, v = some (.inl q)) ∧ sg_F [] σ σ') := by
  have hF0 := sg_F_r [] σ
  refine wk_b tt_100 1 (pc' := 1) (ls' := [(0, .inr (.inr (.ref 77))), (1, .inl (a1)), (2, .inl (a2))]) (st' := [.inl (a1)]) (σ' := σ) rfl ?_
  refine wk_ifn tt_100 (tgt := 11) rfl rfl (fun h1 => ?_) (fun h1 => ?_)
  ·
    simp only [sg_c, sg_nc] at h1
    refine wk_b tt_100 1 (pc' := 12) (ls' := [(0, .inr (.inr (.ref 77))), (1, .inl (a1)), (2, .inl (a2))]) (st' := [.inl (0)]) (σ' := σ) rfl ?_
    exact wk_rI tt_100 rfl rfl ⟨⟨_, rfl⟩, hF0⟩
  ·
    simp only [sg_c, sg_nc] at h1
    refine wk_b tt_100 2 (pc' := 8) (ls' := [(0, .inr (.inr (.ref 77))), (1, .inl (a1)), (2, .inl (a2))]) (st' := [.inl (8000), .inl (a1)]) (σ' := σ) rfl ?_
    refine wk_if2n tt_100 (tgt := 13) rfl rfl (fun h2 => ?_) (fun h2 => ?_)
    ·
      have h2_r := sg_Rn (8000)
      have h2_q := sg_Rn (a1)
      have h2_l := sg_id (z := 8000) (by decide)
      simp only [sg_c, sg_nc] at h2
      refine wk_b tt_100 3 (pc' := 18) (ls' := [(0, .inr (.inr (.ref 77))), (1, .inl (a1)), (2, .inl (a2))]) (st' := [.inl (a1), .inr (.inr (.ref 80))]) (σ' := σ) rfl ?_
      refine wk_n ?_
      refine wk_ia tt_100 rfl rfl (by omega) (by omega) (by omega) ?_
      generalize sg_g σ 80 (sg_n (a1)) = q3
      refine wk_b tt_100 4 (pc' := 23) (ls' := [(3, .inl ((q3 + a2))), (0, .inr (.inr (.ref 77))), (1, .inl (a1)), (2, .inl (a2))]) (st' := [.inl ((q3 + a2))]) (σ' := σ) rfl ?_
      refine wk_ifn tt_100 (tgt := 42) rfl rfl (fun h4 => ?_) (fun h4 => ?_)
      ·
        simp only [sg_c, sg_nc] at h4
        refine wk_b tt_100 1 (pc' := 43) (ls' := [(3, .inl ((q3 + a2))), (0, .inr (.inr (.ref 77))), (1, .inl (a1)), (2, .inl (a2))]) (st' := [.inl (0)]) (σ' := σ) rfl ?_
        exact wk_rI tt_100 rfl rfl ⟨⟨_, rfl⟩, hF0⟩
      ·
        simp only [sg_c, sg_nc] at h4
        refine wk_b tt_100 2 (pc' := 30) (ls' := [(3, .inl ((q3 + a2))), (0, .inr (.inr (.ref 77))), (1, .inl (a1)), (2, .inl (a2))]) (st' := [.inl (6000), .inl ((q3 + a2))]) (σ' := σ) rfl ?_
        refine wk_if2n tt_100 (tgt := 42) rfl rfl (fun h5 => ?_) (fun h5 => ?_)
        ·
          have h5_r := sg_Rn (6000)
          have h5_q := sg_Rn ((q3 + a2))
          have h5_l := sg_id (z := 6000) (by decide)
          simp only [sg_c, sg_nc] at h5
          refine wk_b tt_100 1 (pc' := 43) (ls' := [(3, .inl ((q3 + a2))), (0, .inr (.inr (.ref 77))), (1, .inl (a1)), (2, .inl (a2))]) (st' := [.inl (0)]) (σ' := σ) rfl ?_
          exact wk_rI tt_100 rfl rfl ⟨⟨_, rfl⟩, hF0⟩
        ·
          have h5_r := sg_Rn (6000)
          have h5_q := sg_Rn ((q3 + a2))
          have h5_l := sg_id (z := 6000) (by decide)
          simp only [sg_c, sg_nc] at h5
          refine wk_b tt_100 3 (pc' := 38) (ls' := [(3, .inl ((q3 + a2))), (0, .inr (.inr (.ref 77))), (1, .inl (a1)), (2, .inl (a2))]) (st' := [.inl ((q3 + a2)), .inr (.inr (.ref 78))]) (σ' := σ) rfl ?_
          refine wk_n ?_
          refine wk_ia tt_100 rfl rfl (by omega) (by omega) (by omega) ?_
          generalize sg_g σ 78 (sg_n ((q3 + a2))) = q6
          refine wk_b tt_100 1 (pc' := 43) (ls' := [(3, .inl ((q3 + a2))), (0, .inr (.inr (.ref 77))), (1, .inl (a1)), (2, .inl (a2))]) (st' := [.inl (q6)]) (σ' := σ) rfl ?_
          exact wk_rI tt_100 rfl rfl ⟨⟨_, rfl⟩, hF0⟩
    ·
      have h2_r := sg_Rn (8000)
      have h2_q := sg_Rn (a1)
      have h2_l := sg_id (z := 8000) (by decide)
      simp only [sg_c, sg_nc] at h2
      refine wk_b tt_100 1 (pc' := 12) (ls' := [(0, .inr (.inr (.ref 77))), (1, .inl (a1)), (2, .inl (a2))]) (st' := [.inl (0)]) (σ' := σ) rfl ?_
      exact wk_rI tt_100 rfl rfl ⟨⟨_, rfl⟩, hF0⟩
-- NestedVectors$Image.add x.flatRun.image a1
set_option maxRecDepth 8000 in
theorem bw_3 (z : Value) (σ : sg_S) (a1 : Int) : wx z 1 91 0 [(0, .inr (.inr (.ref 65))), (1, .inl (a1))] [] σ (fun v σ' => v = none ∧ sg_F [65, 68] σ σ') := by
  have hF0 := sg_F_r [65, 68] σ
  refine wk_b tt_91 5 (pc' := 9) (ls' := [(0, .inr (.inr (.ref 65))), (1, .inl (a1))]) (st' := [.inl (a1), .inl ((sg_g σ 65 2)), .inr (.inr (.ref 68))]) (σ' := σ) rfl ?_
  refine wk_callp tt_91 rfl rfl rfl rfl rfl tt_21 rfl (by decide) (pt_i z σ 68 6001 ((sg_g σ 65 2)) (a1) rfl (by decide)) ?_
  have hF4 : sg_F [65, 68] σ (sx_put σ 68 6001 (sg_n ((sg_g σ 65 2))) (a1)) := sg_F_p hF0 rfl _ _ _
  generalize (sx_put σ 68 6001 (sg_n ((sg_g σ 65 2))) (a1)) = σ5 at hF4 ⊢
  refine wk_b tt_91 6 (pc' := 22) (ls' := [(0, .inr (.inr (.ref 65))), (1, .inl (a1))]) (st' := []) (σ' := (sg_w σ5 65 2 (((sg_g σ5 65 2) + 1)))) rfl ?_
  have hF6 : sg_F [65, 68] σ (sg_w σ5 65 2 (((sg_g σ5 65 2) + 1))) := (sg_F_w hF4 rfl _)
  generalize (sg_w σ5 65 2 (((sg_g σ5 65 2) + 1))) = σ7 at hF6 ⊢
  exact wk_rV tt_91 rfl rfl ⟨rfl, hF6⟩
-- NestedVectors$Lanes.items x.flatRun.rows a1
set_option maxRecDepth 8000 in
theorem bw_4 (z : Value) (σ : sg_S) (a1 : Int) : wx z 0 106 0 [(0, .inr (.inr (.ref 77))), (1, .inl (a1))] [] σ (fun v σ' => (∃ q, v = some (.inl q)) ∧ sg_F [] σ σ') := by
  have hF0 := sg_F_r [] σ
  refine wk_b tt_106 1 (pc' := 1) (ls' := [(0, .inr (.inr (.ref 77))), (1, .inl (a1))]) (st' := [.inl (a1)]) (σ' := σ) rfl ?_
  refine wk_ifn tt_106 (tgt := 20) rfl rfl (fun h1 => ?_) (fun h1 => ?_)
  ·
    simp only [sg_c, sg_nc] at h1
    refine wk_b tt_106 1 (pc' := 21) (ls' := [(0, .inr (.inr (.ref 77))), (1, .inl (a1))]) (st' := [.inl ((-1))]) (σ' := σ) rfl ?_
    exact wk_rI tt_106 rfl rfl ⟨⟨_, rfl⟩, hF0⟩
  ·
    simp only [sg_c, sg_nc] at h1
    refine wk_b tt_106 2 (pc' := 8) (ls' := [(0, .inr (.inr (.ref 77))), (1, .inl (a1))]) (st' := [.inl (8000), .inl (a1)]) (σ' := σ) rfl ?_
    refine wk_if2n tt_106 (tgt := 20) rfl rfl (fun h2 => ?_) (fun h2 => ?_)
    ·
      have h2_r := sg_Rn (8000)
      have h2_q := sg_Rn (a1)
      have h2_l := sg_id (z := 8000) (by decide)
      simp only [sg_c, sg_nc] at h2
      refine wk_b tt_106 1 (pc' := 21) (ls' := [(0, .inr (.inr (.ref 77))), (1, .inl (a1))]) (st' := [.inl ((-1))]) (σ' := σ) rfl ?_
      exact wk_rI tt_106 rfl rfl ⟨⟨_, rfl⟩, hF0⟩
    ·
      have h2_r := sg_Rn (8000)
      have h2_q := sg_Rn (a1)
      have h2_l := sg_id (z := 8000) (by decide)
      simp only [sg_c, sg_nc] at h2
      refine wk_b tt_106 3 (pc' := 16) (ls' := [(0, .inr (.inr (.ref 77))), (1, .inl (a1))]) (st' := [.inl (a1), .inr (.inr (.ref 82))]) (σ' := σ) rfl ?_
      refine wk_n ?_
      refine wk_ia tt_106 rfl rfl (by omega) (by omega) (by omega) ?_
      generalize sg_g σ 82 (sg_n (a1)) = q3
      refine wk_b tt_106 1 (pc' := 21) (ls' := [(0, .inr (.inr (.ref 77))), (1, .inl (a1))]) (st' := [.inl (q3)]) (σ' := σ) rfl ?_
      exact wk_rI tt_106 rfl rfl ⟨⟨_, rfl⟩, hF0⟩
-- NestedVectors$Lanes.start x.flatRun.rows a1 a2
set_option maxRecDepth 8000 in
theorem bw_5 (z : Value) (σ : sg_S) (a1 : Int) (a2 : Int) : wx z 0 114 0 [(0, .inr (.inr (.ref 77))), (1, .inl (a1)), (2, .inl (a2))] [] σ (fun v σ' => (∃ q, v = some (.inl q)) ∧ sg_F [] σ σ') := by
  have hF0 := sg_F_r [] σ
  refine wk_b tt_114 1 (pc' := 1) (ls' := [(0, .inr (.inr (.ref 77))), (1, .inl (a1)), (2, .inl (a2))]) (st' := [.inl (a1)]) (σ' := σ) rfl ?_
  refine wk_ifn tt_114 (tgt := 11) rfl rfl (fun h1 => ?_) (fun h1 => ?_)
  ·
    simp only [sg_c, sg_nc] at h1
    refine wk_b tt_114 1 (pc' := 12) (ls' := [(0, .inr (.inr (.ref 77))), (1, .inl (a1)), (2, .inl (a2))]) (st' := [.inl (0)]) (σ' := σ) rfl ?_
    exact wk_rI tt_114 rfl rfl ⟨⟨_, rfl⟩, hF0⟩
  ·
    simp only [sg_c, sg_nc] at h1
    refine wk_b tt_114 2 (pc' := 8) (ls' := [(0, .inr (.inr (.ref 77))), (1, .inl (a1)), (2, .inl (a2))]) (st' := [.inl (8000), .inl (a1)]) (σ' := σ) rfl ?_
    refine wk_if2n tt_114 (tgt := 13) rfl rfl (fun h2 => ?_) (fun h2 => ?_)
    ·
      have h2_r := sg_Rn (8000)
      have h2_q := sg_Rn (a1)
      have h2_l := sg_id (z := 8000) (by decide)
      simp only [sg_c, sg_nc] at h2
      refine wk_b tt_114 3 (pc' := 18) (ls' := [(0, .inr (.inr (.ref 77))), (1, .inl (a1)), (2, .inl (a2))]) (st' := [.inl (a1), .inr (.inr (.ref 80))]) (σ' := σ) rfl ?_
      refine wk_n ?_
      refine wk_ia tt_114 rfl rfl (by omega) (by omega) (by omega) ?_
      generalize sg_g σ 80 (sg_n (a1)) = q3
      refine wk_b tt_114 4 (pc' := 23) (ls' := [(3, .inl ((q3 + a2))), (0, .inr (.inr (.ref 77))), (1, .inl (a1)), (2, .inl (a2))]) (st' := [.inl ((q3 + a2))]) (σ' := σ) rfl ?_
      refine wk_ifn tt_114 (tgt := 42) rfl rfl (fun h4 => ?_) (fun h4 => ?_)
      ·
        simp only [sg_c, sg_nc] at h4
        refine wk_b tt_114 1 (pc' := 43) (ls' := [(3, .inl ((q3 + a2))), (0, .inr (.inr (.ref 77))), (1, .inl (a1)), (2, .inl (a2))]) (st' := [.inl (0)]) (σ' := σ) rfl ?_
        exact wk_rI tt_114 rfl rfl ⟨⟨_, rfl⟩, hF0⟩
      ·
        simp only [sg_c, sg_nc] at h4
        refine wk_b tt_114 2 (pc' := 30) (ls' := [(3, .inl ((q3 + a2))), (0, .inr (.inr (.ref 77))), (1, .inl (a1)), (2, .inl (a2))]) (st' := [.inl (6000), .inl ((q3 + a2))]) (σ' := σ) rfl ?_
        refine wk_if2n tt_114 (tgt := 42) rfl rfl (fun h5 => ?_) (fun h5 => ?_)
        ·
          have h5_r := sg_Rn (6000)
          have h5_q := sg_Rn ((q3 + a2))
          have h5_l := sg_id (z := 6000) (by decide)
          simp only [sg_c, sg_nc] at h5
          refine wk_b tt_114 1 (pc' := 43) (ls' := [(3, .inl ((q3 + a2))), (0, .inr (.inr (.ref 77))), (1, .inl (a1)), (2, .inl (a2))]) (st' := [.inl (0)]) (σ' := σ) rfl ?_
          exact wk_rI tt_114 rfl rfl ⟨⟨_, rfl⟩, hF0⟩
        ·
          have h5_r := sg_Rn (6000)
          have h5_q := sg_Rn ((q3 + a2))
          have h5_l := sg_id (z := 6000) (by decide)
          simp only [sg_c, sg_nc] at h5
          refine wk_b tt_114 3 (pc' := 38) (ls' := [(3, .inl ((q3 + a2))), (0, .inr (.inr (.ref 77))), (1, .inl (a1)), (2, .inl (a2))]) (st' := [.inl ((q3 + a2)), .inr (.inr (.ref 79))]) (σ' := σ) rfl ?_
          refine wk_n ?_
          refine wk_ia tt_114 rfl rfl (by omega) (by omega) (by omega) ?_
          generalize sg_g σ 79 (sg_n ((q3 + a2))) = q6
          refine wk_b tt_114 1 (pc' := 43) (ls' := [(3, .inl ((q3 + a2))), (0, .inr (.inr (.ref 77))), (1, .inl (a1)), (2, .inl (a2))]) (st' := [.inl (q6)]) (σ' := σ) rfl ?_
          exact wk_rI tt_114 rfl rfl ⟨⟨_, rfl⟩, hF0⟩
    ·
      have h2_r := sg_Rn (8000)
      have h2_q := sg_Rn (a1)
      have h2_l := sg_id (z := 8000) (by decide)
      simp only [sg_c, sg_nc] at h2
      refine wk_b tt_114 1 (pc' := 12) (ls' := [(0, .inr (.inr (.ref 77))), (1, .inl (a1)), (2, .inl (a2))]) (st' := [.inl (0)]) (σ' := σ) rfl ?_
      exact wk_rI tt_114 rfl rfl ⟨⟨_, rfl⟩, hF0⟩
-- NestedVectors$FlatRun.drawLane x.flatRun a1 a2 a3
set_option maxRecDepth 8000 in
theorem bw_6 (z : Value) (σ : sg_S) (a1 : Int) (a2 : Int) (a3 : Int) (hp : sg_n a3 ≤ 0) : wx z 2 62 0 [(0, .inr (.inr (.ref 61))), (1, .inl (a1)), (2, .inl (a2)), (3, .inl (a3))] [] σ (fun v σ' => v = none ∧ sg_F [65, 68] σ σ') := by
  have hF0 := sg_F_r [65, 68] σ
  refine wk_b tt_62 4 (pc' := 6) (ls' := [(0, .inr (.inr (.ref 61))), (1, .inl (a1)), (2, .inl (a2)), (3, .inl (a3))]) (st' := [.inl (a2), .inl (a1), .inr (.inr (.ref 77))]) (σ' := σ) rfl ?_
  refine wk_call tt_62 rfl rfl rfl rfl rfl tt_100 rfl (by decide) (bw_2 z σ (a1) (a2)) (fun w1 σ2 hq3 => ?_)
  obtain ⟨⟨q5, rfl⟩, hF4⟩ := hq3
  have hF6 := sg_F_t hF0 (sg_F_m (L := [65, 68]) hF4 rfl)
  refine wk_b tt_62 4 (pc' := 17) (ls' := [(4, .inl (q5)), (0, .inr (.inr (.ref 61))), (1, .inl (a1)), (2, .inl (a2)), (3, .inl (a3))]) (st' := [.inl (q5), .inr (.inr (.ref 65))]) (σ' := σ2) rfl ?_
  refine wk_call tt_62 rfl rfl rfl rfl rfl tt_91 rfl (by decide) (bw_3 z σ2 (q5)) (fun w7 σ8 hq9 => ?_)
  obtain ⟨rfl, hF10⟩ := hq9
  have hF11 := sg_F_t hF6 (sg_F_m (L := [65, 68]) hF10 rfl)
  refine wk_b tt_62 1 (pc' := 21) (ls' := [(4, .inl (q5)), (0, .inr (.inr (.ref 61))), (1, .inl (a1)), (2, .inl (a2)), (3, .inl (a3))]) (st' := [.inl (a3)]) (σ' := σ8) rfl ?_
  refine wk_ifn tt_62 (tgt := 75) rfl rfl (fun h12 => ?_) (fun h12 => ?_)
  ·
    simp only [sg_c, sg_nc] at h12
    exact wk_rV tt_62 rfl rfl ⟨rfl, hF11⟩
  ·
    simp only [sg_c, sg_nc] at h12
    refine wk_b tt_62 2 (pc' := 27) (ls' := [(5, .inl (0)), (4, .inl (q5)), (0, .inr (.inr (.ref 61))), (1, .inl (a1)), (2, .inl (a2)), (3, .inl (a3))]) (st' := []) (σ' := σ8) rfl ?_
    have ex16 : ∀ (σ14 : sg_S), sg_F [65, 68] σ σ14 → wx z 2 62 75 [] [] σ14 (fun v σ' => v = none ∧ sg_F [65, 68] σ σ') := by
      intro σ14 hF15
      exact wk_rV tt_62 rfl rfl ⟨rfl, hF15⟩
    have lp19 : ∀ (m18 : Nat) (σ14 : sg_S) (v13 : Int), sg_F [65, 68] σ σ14 → (sg_R v13) → (2147483647 - v13).toNat = m18 → wx z 2 62 27 [(0, .inr (.inr (.ref 61))), (1, .inl (a1)), (2, .inl (a2)), (3, .inl (a3)), (4, .inl (q5)), (5, .inl (v13))] [] σ14 (fun v σ' => v = none ∧ sg_F [65, 68] σ σ') := by
      intro m18
      induction m18 using Nat.strongRecOn with
      | _ m18 ih17 =>
        intro σ14 v13 hF15 hR20 hm21
        have hR20_i := sg_id (z := v13) (by omega)
        refine wk_b tt_62 2 (pc' := 31) (ls' := [(0, .inr (.inr (.ref 61))), (1, .inl (a1)), (2, .inl (a2)), (3, .inl (a3)), (4, .inl (q5)), (5, .inl (v13))]) (st' := [.inl (q5), .inl (v13)]) (σ' := σ14) rfl ?_
        refine wk_if2n tt_62 (tgt := 75) rfl rfl (fun h22 => ?_) (fun h22 => ?_)
        ·
          have h22_r := sg_Rn (q5)
          have h22_q := sg_Rn (v13)
          simp only [sg_c, sg_nc] at h22
          exact wk_ls [] rfl trivial (ex16 σ14 hF15)
        ·
          have h22_r := sg_Rn (q5)
          have h22_q := sg_Rn (v13)
          simp only [sg_c, sg_nc] at h22
          refine wk_b tt_62 2 (pc' := 39) (ls' := [(0, .inr (.inr (.ref 61))), (1, .inl (a1)), (2, .inl (a2)), (3, .inl (a3)), (4, .inl (q5)), (5, .inl (v13))]) (st' := [.inl (200), .inl (v13)]) (σ' := σ14) rfl ?_
          refine wk_if2n tt_62 (tgt := 75) rfl rfl (fun h23 => ?_) (fun h23 => ?_)
          ·
            have h23_r := sg_Rn (200)
            have h23_q := sg_Rn (v13)
            have h23_l := sg_id (z := 200) (by decide)
            simp only [sg_c, sg_nc] at h23
            exact wk_ls [] rfl trivial (ex16 σ14 hF15)
          ·
            have h23_r := sg_Rn (200)
            have h23_q := sg_Rn (v13)
            have h23_l := sg_id (z := 200) (by decide)
            simp only [sg_c, sg_nc] at h23
            refine wk_b tt_62 4 (pc' := 48) (ls' := [(0, .inr (.inr (.ref 61))), (1, .inl (a1)), (2, .inl (a2)), (3, .inl (a3)), (4, .inl (q5)), (5, .inl (v13))]) (st' := [.inl (a1), .inr (.inr (.ref 77)), .inr (.inr (.ref 61))]) (σ' := σ14) rfl ?_
            refine wk_call tt_62 rfl rfl rfl rfl rfl tt_106 rfl (by decide) (bw_4 z σ14 (a1)) (fun w24 σ25 hq26 => ?_)
            obtain ⟨⟨q28, rfl⟩, hF27⟩ := hq26
            have hF29 := sg_F_t hF15 (sg_F_m (L := [65, 68]) hF27 rfl)
            refine wk_b tt_62 4 (pc' := 57) (ls' := [(0, .inr (.inr (.ref 61))), (1, .inl (a1)), (2, .inl (a2)), (3, .inl (a3)), (4, .inl (q5)), (5, .inl (v13))]) (st' := [.inl (a2), .inl (a1), .inr (.inr (.ref 77)), .inl (q28), .inr (.inr (.ref 61))]) (σ' := σ25) rfl ?_
            refine wk_call tt_62 rfl rfl rfl rfl rfl tt_114 rfl (by decide) (bw_5 z σ25 (a1) (a2)) (fun w30 σ31 hq32 => ?_)
            obtain ⟨⟨q34, rfl⟩, hF33⟩ := hq32
            have hF35 := sg_F_t hF29 (sg_F_m (L := [65, 68]) hF33 rfl)
            refine wk_b tt_62 5 (pc' := 66) (ls' := [(0, .inr (.inr (.ref 61))), (1, .inl (a1)), (2, .inl (a2)), (3, .inl (a3)), (4, .inl (q5)), (5, .inl (v13))]) (st' := [.inl ((a3 - 1)), .inl ((q34 + v13)), .inl (q28), .inr (.inr (.ref 61))]) (σ' := σ31) rfl ?_
            exfalso; omega
    refine wk_ls [(0, .inr (.inr (.ref 61))), (1, .inl (a1)), (2, .inl (a2)), (3, .inl (a3)), (4, .inl (q5)), (5, .inl (0))] rfl ⟨rfl, rfl, rfl, rfl, rfl, rfl, trivial⟩ ?_
    exact lp19 _ σ8 (0) hF11 (by omega) rfl
-- NestedVectors$FlatRun.drawLane x.flatRun a1 a2 a3
set_option maxRecDepth 8000 in
theorem bw_7 (z : Value) (σ : sg_S) (a1 : Int) (a2 : Int) (a3 : Int) (hp : sg_n a3 ≤ 1) : wx z 3 62 0 [(0, .inr (.inr (.ref 61))), (1, .inl (a1)), (2, .inl (a2)), (3, .inl (a3))] [] σ (fun v σ' => v = none ∧ sg_F [65, 68] σ σ') := by
  have hF0 := sg_F_r [65, 68] σ
  refine wk_b tt_62 4 (pc' := 6) (ls' := [(0, .inr (.inr (.ref 61))), (1, .inl (a1)), (2, .inl (a2)), (3, .inl (a3))]) (st' := [.inl (a2), .inl (a1), .inr (.inr (.ref 77))]) (σ' := σ) rfl ?_
  refine wk_call tt_62 rfl rfl rfl rfl rfl tt_100 rfl (by decide) (bw_2 z σ (a1) (a2)) (fun w1 σ2 hq3 => ?_)
  obtain ⟨⟨q5, rfl⟩, hF4⟩ := hq3
  have hF6 := sg_F_t hF0 (sg_F_m (L := [65, 68]) hF4 rfl)
  refine wk_b tt_62 4 (pc' := 17) (ls' := [(4, .inl (q5)), (0, .inr (.inr (.ref 61))), (1, .inl (a1)), (2, .inl (a2)), (3, .inl (a3))]) (st' := [.inl (q5), .inr (.inr (.ref 65))]) (σ' := σ2) rfl ?_
  refine wk_call tt_62 rfl rfl rfl rfl rfl tt_91 rfl (by decide) (bw_3 z σ2 (q5)) (fun w7 σ8 hq9 => ?_)
  obtain ⟨rfl, hF10⟩ := hq9
  have hF11 := sg_F_t hF6 (sg_F_m (L := [65, 68]) hF10 rfl)
  refine wk_b tt_62 1 (pc' := 21) (ls' := [(4, .inl (q5)), (0, .inr (.inr (.ref 61))), (1, .inl (a1)), (2, .inl (a2)), (3, .inl (a3))]) (st' := [.inl (a3)]) (σ' := σ8) rfl ?_
  refine wk_ifn tt_62 (tgt := 75) rfl rfl (fun h12 => ?_) (fun h12 => ?_)
  ·
    simp only [sg_c, sg_nc] at h12
    exact wk_rV tt_62 rfl rfl ⟨rfl, hF11⟩
  ·
    simp only [sg_c, sg_nc] at h12
    refine wk_b tt_62 2 (pc' := 27) (ls' := [(5, .inl (0)), (4, .inl (q5)), (0, .inr (.inr (.ref 61))), (1, .inl (a1)), (2, .inl (a2)), (3, .inl (a3))]) (st' := []) (σ' := σ8) rfl ?_
    have ex16 : ∀ (σ14 : sg_S), sg_F [65, 68] σ σ14 → wx z 3 62 75 [] [] σ14 (fun v σ' => v = none ∧ sg_F [65, 68] σ σ') := by
      intro σ14 hF15
      exact wk_rV tt_62 rfl rfl ⟨rfl, hF15⟩
    have lp19 : ∀ (m18 : Nat) (σ14 : sg_S) (v13 : Int), sg_F [65, 68] σ σ14 → (sg_R v13) → (2147483647 - v13).toNat = m18 → wx z 3 62 27 [(0, .inr (.inr (.ref 61))), (1, .inl (a1)), (2, .inl (a2)), (3, .inl (a3)), (4, .inl (q5)), (5, .inl (v13))] [] σ14 (fun v σ' => v = none ∧ sg_F [65, 68] σ σ') := by
      intro m18
      induction m18 using Nat.strongRecOn with
      | _ m18 ih17 =>
        intro σ14 v13 hF15 hR20 hm21
        have hR20_i := sg_id (z := v13) (by omega)
        refine wk_b tt_62 2 (pc' := 31) (ls' := [(0, .inr (.inr (.ref 61))), (1, .inl (a1)), (2, .inl (a2)), (3, .inl (a3)), (4, .inl (q5)), (5, .inl (v13))]) (st' := [.inl (q5), .inl (v13)]) (σ' := σ14) rfl ?_
        refine wk_if2n tt_62 (tgt := 75) rfl rfl (fun h22 => ?_) (fun h22 => ?_)
        ·
          have h22_r := sg_Rn (q5)
          have h22_q := sg_Rn (v13)
          simp only [sg_c, sg_nc] at h22
          exact wk_ls [] rfl trivial (ex16 σ14 hF15)
        ·
          have h22_r := sg_Rn (q5)
          have h22_q := sg_Rn (v13)
          simp only [sg_c, sg_nc] at h22
          refine wk_b tt_62 2 (pc' := 39) (ls' := [(0, .inr (.inr (.ref 61))), (1, .inl (a1)), (2, .inl (a2)), (3, .inl (a3)), (4, .inl (q5)), (5, .inl (v13))]) (st' := [.inl (200), .inl (v13)]) (σ' := σ14) rfl ?_
          refine wk_if2n tt_62 (tgt := 75) rfl rfl (fun h23 => ?_) (fun h23 => ?_)
          ·
            have h23_r := sg_Rn (200)
            have h23_q := sg_Rn (v13)
            have h23_l := sg_id (z := 200) (by decide)
            simp only [sg_c, sg_nc] at h23
            exact wk_ls [] rfl trivial (ex16 σ14 hF15)
          ·
            have h23_r := sg_Rn (200)
            have h23_q := sg_Rn (v13)
            have h23_l := sg_id (z := 200) (by decide)
            simp only [sg_c, sg_nc] at h23
            refine wk_b tt_62 4 (pc' := 48) (ls' := [(0, .inr (.inr (.ref 61))), (1, .inl (a1)), (2, .inl (a2)), (3, .inl (a3)), (4, .inl (q5)), (5, .inl (v13))]) (st' := [.inl (a1), .inr (.inr (.ref 77)), .inr (.inr (.ref 61))]) (σ' := σ14) rfl ?_
            refine wk_call tt_62 rfl rfl rfl rfl rfl tt_106 rfl (by decide) (bw_4 z σ14 (a1)) (fun w24 σ25 hq26 => ?_)
            obtain ⟨⟨q28, rfl⟩, hF27⟩ := hq26
            have hF29 := sg_F_t hF15 (sg_F_m (L := [65, 68]) hF27 rfl)
            refine wk_b tt_62 4 (pc' := 57) (ls' := [(0, .inr (.inr (.ref 61))), (1, .inl (a1)), (2, .inl (a2)), (3, .inl (a3)), (4, .inl (q5)), (5, .inl (v13))]) (st' := [.inl (a2), .inl (a1), .inr (.inr (.ref 77)), .inl (q28), .inr (.inr (.ref 61))]) (σ' := σ25) rfl ?_
            refine wk_call tt_62 rfl rfl rfl rfl rfl tt_114 rfl (by decide) (bw_5 z σ25 (a1) (a2)) (fun w30 σ31 hq32 => ?_)
            obtain ⟨⟨q34, rfl⟩, hF33⟩ := hq32
            have hF35 := sg_F_t hF29 (sg_F_m (L := [65, 68]) hF33 rfl)
            refine wk_b tt_62 5 (pc' := 66) (ls' := [(0, .inr (.inr (.ref 61))), (1, .inl (a1)), (2, .inl (a2)), (3, .inl (a3)), (4, .inl (q5)), (5, .inl (v13))]) (st' := [.inl ((a3 - 1)), .inl ((q34 + v13)), .inl (q28), .inr (.inr (.ref 61))]) (σ' := σ31) rfl ?_
            refine wk_call tt_62 rfl rfl rfl rfl rfl tt_62 rfl (by decide) (bw_6 z σ31 (q28) ((q34 + v13)) ((a3 - 1)) (by have := sg_n_pred (x := a3) (by omega); omega)) (fun w36 σ37 hq38 => ?_)
            obtain ⟨rfl, hF39⟩ := hq38
            have hF40 := sg_F_t hF35 (sg_F_m (L := [65, 68]) hF39 rfl)
            refine wk_b tt_62 2 (pc' := 27) (ls' := [(5, .inl ((v13 + 1))), (0, .inr (.inr (.ref 61))), (1, .inl (a1)), (2, .inl (a2)), (3, .inl (a3)), (4, .inl (q5))]) (st' := []) (σ' := σ37) rfl ?_
            refine wk_ls [(0, .inr (.inr (.ref 61))), (1, .inl (a1)), (2, .inl (a2)), (3, .inl (a3)), (4, .inl (q5)), (5, .inl ((v13 + 1)))] rfl ⟨rfl, rfl, rfl, rfl, rfl, rfl, trivial⟩ (ih17 _ ?_ σ37 ((v13 + 1)) hF40 ?_ rfl)
            · omega
            · omega
    refine wk_ls [(0, .inr (.inr (.ref 61))), (1, .inl (a1)), (2, .inl (a2)), (3, .inl (a3)), (4, .inl (q5)), (5, .inl (0))] rfl ⟨rfl, rfl, rfl, rfl, rfl, rfl, trivial⟩ ?_
    exact lp19 _ σ8 (0) hF11 (by omega) rfl
-- NestedVectors$FlatRun.drawLane x.flatRun a1 a2 a3
set_option maxRecDepth 8000 in
theorem bw_8 (z : Value) (σ : sg_S) (a1 : Int) (a2 : Int) (a3 : Int) (hp : sg_n a3 ≤ 2) : wx z 4 62 0 [(0, .inr (.inr (.ref 61))), (1, .inl (a1)), (2, .inl (a2)), (3, .inl (a3))] [] σ (fun v σ' => v = none ∧ sg_F [65, 68] σ σ') := by
  have hF0 := sg_F_r [65, 68] σ
  refine wk_b tt_62 4 (pc' := 6) (ls' := [(0, .inr (.inr (.ref 61))), (1, .inl (a1)), (2, .inl (a2)), (3, .inl (a3))]) (st' := [.inl (a2), .inl (a1), .inr (.inr (.ref 77))]) (σ' := σ) rfl ?_
  refine wk_call tt_62 rfl rfl rfl rfl rfl tt_100 rfl (by decide) (bw_2 z σ (a1) (a2)) (fun w1 σ2 hq3 => ?_)
  obtain ⟨⟨q5, rfl⟩, hF4⟩ := hq3
  have hF6 := sg_F_t hF0 (sg_F_m (L := [65, 68]) hF4 rfl)
  refine wk_b tt_62 4 (pc' := 17) (ls' := [(4, .inl (q5)), (0, .inr (.inr (.ref 61))), (1, .inl (a1)), (2, .inl (a2)), (3, .inl (a3))]) (st' := [.inl (q5), .inr (.inr (.ref 65))]) (σ' := σ2) rfl ?_
  refine wk_call tt_62 rfl rfl rfl rfl rfl tt_91 rfl (by decide) (bw_3 z σ2 (q5)) (fun w7 σ8 hq9 => ?_)
  obtain ⟨rfl, hF10⟩ := hq9
  have hF11 := sg_F_t hF6 (sg_F_m (L := [65, 68]) hF10 rfl)
  refine wk_b tt_62 1 (pc' := 21) (ls' := [(4, .inl (q5)), (0, .inr (.inr (.ref 61))), (1, .inl (a1)), (2, .inl (a2)), (3, .inl (a3))]) (st' := [.inl (a3)]) (σ' := σ8) rfl ?_
  refine wk_ifn tt_62 (tgt := 75) rfl rfl (fun h12 => ?_) (fun h12 => ?_)
  ·
    simp only [sg_c, sg_nc] at h12
    exact wk_rV tt_62 rfl rfl ⟨rfl, hF11⟩
  ·
    simp only [sg_c, sg_nc] at h12
    refine wk_b tt_62 2 (pc' := 27) (ls' := [(5, .inl (0)), (4, .inl (q5)), (0, .inr (.inr (.ref 61))), (1, .inl (a1)), (2, .inl (a2)), (3, .inl (a3))]) (st' := []) (σ' := σ8) rfl ?_
    have ex16 : ∀ (σ14 : sg_S), sg_F [65, 68] σ σ14 → wx z 4 62 75 [] [] σ14 (fun v σ' => v = none ∧ sg_F [65, 68] σ σ') := by
      intro σ14 hF15
      exact wk_rV tt_62 rfl rfl ⟨rfl, hF15⟩
    have lp19 : ∀ (m18 : Nat) (σ14 : sg_S) (v13 : Int), sg_F [65, 68] σ σ14 → (sg_R v13) → (2147483647 - v13).toNat = m18 → wx z 4 62 27 [(0, .inr (.inr (.ref 61))), (1, .inl (a1)), (2, .inl (a2)), (3, .inl (a3)), (4, .inl (q5)), (5, .inl (v13))] [] σ14 (fun v σ' => v = none ∧ sg_F [65, 68] σ σ') := by
      intro m18
      induction m18 using Nat.strongRecOn with
      | _ m18 ih17 =>
        intro σ14 v13 hF15 hR20 hm21
        have hR20_i := sg_id (z := v13) (by omega)
        refine wk_b tt_62 2 (pc' := 31) (ls' := [(0, .inr (.inr (.ref 61))), (1, .inl (a1)), (2, .inl (a2)), (3, .inl (a3)), (4, .inl (q5)), (5, .inl (v13))]) (st' := [.inl (q5), .inl (v13)]) (σ' := σ14) rfl ?_
        refine wk_if2n tt_62 (tgt := 75) rfl rfl (fun h22 => ?_) (fun h22 => ?_)
        ·
          have h22_r := sg_Rn (q5)
          have h22_q := sg_Rn (v13)
          simp only [sg_c, sg_nc] at h22
          exact wk_ls [] rfl trivial (ex16 σ14 hF15)
        ·
          have h22_r := sg_Rn (q5)
          have h22_q := sg_Rn (v13)
          simp only [sg_c, sg_nc] at h22
          refine wk_b tt_62 2 (pc' := 39) (ls' := [(0, .inr (.inr (.ref 61))), (1, .inl (a1)), (2, .inl (a2)), (3, .inl (a3)), (4, .inl (q5)), (5, .inl (v13))]) (st' := [.inl (200), .inl (v13)]) (σ' := σ14) rfl ?_
          refine wk_if2n tt_62 (tgt := 75) rfl rfl (fun h23 => ?_) (fun h23 => ?_)
          ·
            have h23_r := sg_Rn (200)
            have h23_q := sg_Rn (v13)
            have h23_l := sg_id (z := 200) (by decide)
            simp only [sg_c, sg_nc] at h23
            exact wk_ls [] rfl trivial (ex16 σ14 hF15)
          ·
            have h23_r := sg_Rn (200)
            have h23_q := sg_Rn (v13)
            have h23_l := sg_id (z := 200) (by decide)
            simp only [sg_c, sg_nc] at h23
            refine wk_b tt_62 4 (pc' := 48) (ls' := [(0, .inr (.inr (.ref 61))), (1, .inl (a1)), (2, .inl (a2)), (3, .inl (a3)), (4, .inl (q5)), (5, .inl (v13))]) (st' := [.inl (a1), .inr (.inr (.ref 77)), .inr (.inr (.ref 61))]) (σ' := σ14) rfl ?_
            refine wk_call tt_62 rfl rfl rfl rfl rfl tt_106 rfl (by decide) (bw_4 z σ14 (a1)) (fun w24 σ25 hq26 => ?_)
            obtain ⟨⟨q28, rfl⟩, hF27⟩ := hq26
            have hF29 := sg_F_t hF15 (sg_F_m (L := [65, 68]) hF27 rfl)
            refine wk_b tt_62 4 (pc' := 57) (ls' := [(0, .inr (.inr (.ref 61))), (1, .inl (a1)), (2, .inl (a2)), (3, .inl (a3)), (4, .inl (q5)), (5, .inl (v13))]) (st' := [.inl (a2), .inl (a1), .inr (.inr (.ref 77)), .inl (q28), .inr (.inr (.ref 61))]) (σ' := σ25) rfl ?_
            refine wk_call tt_62 rfl rfl rfl rfl rfl tt_114 rfl (by decide) (bw_5 z σ25 (a1) (a2)) (fun w30 σ31 hq32 => ?_)
            obtain ⟨⟨q34, rfl⟩, hF33⟩ := hq32
            have hF35 := sg_F_t hF29 (sg_F_m (L := [65, 68]) hF33 rfl)
            refine wk_b tt_62 5 (pc' := 66) (ls' := [(0, .inr (.inr (.ref 61))), (1, .inl (a1)), (2, .inl (a2)), (3, .inl (a3)), (4, .inl (q5)), (5, .inl (v13))]) (st' := [.inl ((a3 - 1)), .inl ((q34 + v13)), .inl (q28), .inr (.inr (.ref 61))]) (σ' := σ31) rfl ?_
            refine wk_call tt_62 rfl rfl rfl rfl rfl tt_62 rfl (by decide) (bw_7 z σ31 (q28) ((q34 + v13)) ((a3 - 1)) (by have := sg_n_pred (x := a3) (by omega); omega)) (fun w36 σ37 hq38 => ?_)
            obtain ⟨rfl, hF39⟩ := hq38
            have hF40 := sg_F_t hF35 (sg_F_m (L := [65, 68]) hF39 rfl)
            refine wk_b tt_62 2 (pc' := 27) (ls' := [(5, .inl ((v13 + 1))), (0, .inr (.inr (.ref 61))), (1, .inl (a1)), (2, .inl (a2)), (3, .inl (a3)), (4, .inl (q5))]) (st' := []) (σ' := σ37) rfl ?_
            refine wk_ls [(0, .inr (.inr (.ref 61))), (1, .inl (a1)), (2, .inl (a2)), (3, .inl (a3)), (4, .inl (q5)), (5, .inl ((v13 + 1)))] rfl ⟨rfl, rfl, rfl, rfl, rfl, rfl, trivial⟩ (ih17 _ ?_ σ37 ((v13 + 1)) hF40 ?_ rfl)
            · omega
            · omega
    refine wk_ls [(0, .inr (.inr (.ref 61))), (1, .inl (a1)), (2, .inl (a2)), (3, .inl (a3)), (4, .inl (q5)), (5, .inl (0))] rfl ⟨rfl, rfl, rfl, rfl, rfl, rfl, trivial⟩ ?_
    exact lp19 _ σ8 (0) hF11 (by omega) rfl
-- NestedVectors$FlatRun.drawLane x.flatRun a1 a2 a3
set_option maxRecDepth 8000 in
theorem bw_9 (z : Value) (σ : sg_S) (a1 : Int) (a2 : Int) (a3 : Int) (hp : sg_n a3 ≤ 3) : wx z 5 62 0 [(0, .inr (.inr (.ref 61))), (1, .inl (a1)), (2, .inl (a2)), (3, .inl (a3))] [] σ (fun v σ' => v = none ∧ sg_F [65, 68] σ σ') := by
  have hF0 := sg_F_r [65, 68] σ
  refine wk_b tt_62 4 (pc' := 6) (ls' := [(0, .inr (.inr (.ref 61))), (1, .inl (a1)), (2, .inl (a2)), (3, .inl (a3))]) (st' := [.inl (a2), .inl (a1), .inr (.inr (.ref 77))]) (σ' := σ) rfl ?_
  refine wk_call tt_62 rfl rfl rfl rfl rfl tt_100 rfl (by decide) (bw_2 z σ (a1) (a2)) (fun w1 σ2 hq3 => ?_)
  obtain ⟨⟨q5, rfl⟩, hF4⟩ := hq3
  have hF6 := sg_F_t hF0 (sg_F_m (L := [65, 68]) hF4 rfl)
  refine wk_b tt_62 4 (pc' := 17) (ls' := [(4, .inl (q5)), (0, .inr (.inr (.ref 61))), (1, .inl (a1)), (2, .inl (a2)), (3, .inl (a3))]) (st' := [.inl (q5), .inr (.inr (.ref 65))]) (σ' := σ2) rfl ?_
  refine wk_call tt_62 rfl rfl rfl rfl rfl tt_91 rfl (by decide) (bw_3 z σ2 (q5)) (fun w7 σ8 hq9 => ?_)
  obtain ⟨rfl, hF10⟩ := hq9
  have hF11 := sg_F_t hF6 (sg_F_m (L := [65, 68]) hF10 rfl)
  refine wk_b tt_62 1 (pc' := 21) (ls' := [(4, .inl (q5)), (0, .inr (.inr (.ref 61))), (1, .inl (a1)), (2, .inl (a2)), (3, .inl (a3))]) (st' := [.inl (a3)]) (σ' := σ8) rfl ?_
  refine wk_ifn tt_62 (tgt := 75) rfl rfl (fun h12 => ?_) (fun h12 => ?_)
  ·
    simp only [sg_c, sg_nc] at h12
    exact wk_rV tt_62 rfl rfl ⟨rfl, hF11⟩
  ·
    simp only [sg_c, sg_nc] at h12
    refine wk_b tt_62 2 (pc' := 27) (ls' := [(5, .inl (0)), (4, .inl (q5)), (0, .inr (.inr (.ref 61))), (1, .inl (a1)), (2, .inl (a2)), (3, .inl (a3))]) (st' := []) (σ' := σ8) rfl ?_
    have ex16 : ∀ (σ14 : sg_S), sg_F [65, 68] σ σ14 → wx z 5 62 75 [] [] σ14 (fun v σ' => v = none ∧ sg_F [65, 68] σ σ') := by
      intro σ14 hF15
      exact wk_rV tt_62 rfl rfl ⟨rfl, hF15⟩
    have lp19 : ∀ (m18 : Nat) (σ14 : sg_S) (v13 : Int), sg_F [65, 68] σ σ14 → (sg_R v13) → (2147483647 - v13).toNat = m18 → wx z 5 62 27 [(0, .inr (.inr (.ref 61))), (1, .inl (a1)), (2, .inl (a2)), (3, .inl (a3)), (4, .inl (q5)), (5, .inl (v13))] [] σ14 (fun v σ' => v = none ∧ sg_F [65, 68] σ σ') := by
      intro m18
      induction m18 using Nat.strongRecOn with
      | _ m18 ih17 =>
        intro σ14 v13 hF15 hR20 hm21
        have hR20_i := sg_id (z := v13) (by omega)
        refine wk_b tt_62 2 (pc' := 31) (ls' := [(0, .inr (.inr (.ref 61))), (1, .inl (a1)), (2, .inl (a2)), (3, .inl (a3)), (4, .inl (q5)), (5, .inl (v13))]) (st' := [.inl (q5), .inl (v13)]) (σ' := σ14) rfl ?_
        refine wk_if2n tt_62 (tgt := 75) rfl rfl (fun h22 => ?_) (fun h22 => ?_)
        ·
          have h22_r := sg_Rn (q5)
          have h22_q := sg_Rn (v13)
          simp only [sg_c, sg_nc] at h22
          exact wk_ls [] rfl trivial (ex16 σ14 hF15)
        ·
          have h22_r := sg_Rn (q5)
          have h22_q := sg_Rn (v13)
          simp only [sg_c, sg_nc] at h22
          refine wk_b tt_62 2 (pc' := 39) (ls' := [(0, .inr (.inr (.ref 61))), (1, .inl (a1)), (2, .inl (a2)), (3, .inl (a3)), (4, .inl (q5)), (5, .inl (v13))]) (st' := [.inl (200), .inl (v13)]) (σ' := σ14) rfl ?_
          refine wk_if2n tt_62 (tgt := 75) rfl rfl (fun h23 => ?_) (fun h23 => ?_)
          ·
            have h23_r := sg_Rn (200)
            have h23_q := sg_Rn (v13)
            have h23_l := sg_id (z := 200) (by decide)
            simp only [sg_c, sg_nc] at h23
            exact wk_ls [] rfl trivial (ex16 σ14 hF15)
          ·
            have h23_r := sg_Rn (200)
            have h23_q := sg_Rn (v13)
            have h23_l := sg_id (z := 200) (by decide)
            simp only [sg_c, sg_nc] at h23
            refine wk_b tt_62 4 (pc' := 48) (ls' := [(0, .inr (.inr (.ref 61))), (1, .inl (a1)), (2, .inl (a2)), (3, .inl (a3)), (4, .inl (q5)), (5, .inl (v13))]) (st' := [.inl (a1), .inr (.inr (.ref 77)), .inr (.inr (.ref 61))]) (σ' := σ14) rfl ?_
            refine wk_call tt_62 rfl rfl rfl rfl rfl tt_106 rfl (by decide) (bw_4 z σ14 (a1)) (fun w24 σ25 hq26 => ?_)
            obtain ⟨⟨q28, rfl⟩, hF27⟩ := hq26
            have hF29 := sg_F_t hF15 (sg_F_m (L := [65, 68]) hF27 rfl)
            refine wk_b tt_62 4 (pc' := 57) (ls' := [(0, .inr (.inr (.ref 61))), (1, .inl (a1)), (2, .inl (a2)), (3, .inl (a3)), (4, .inl (q5)), (5, .inl (v13))]) (st' := [.inl (a2), .inl (a1), .inr (.inr (.ref 77)), .inl (q28), .inr (.inr (.ref 61))]) (σ' := σ25) rfl ?_
            refine wk_call tt_62 rfl rfl rfl rfl rfl tt_114 rfl (by decide) (bw_5 z σ25 (a1) (a2)) (fun w30 σ31 hq32 => ?_)
            obtain ⟨⟨q34, rfl⟩, hF33⟩ := hq32
            have hF35 := sg_F_t hF29 (sg_F_m (L := [65, 68]) hF33 rfl)
            refine wk_b tt_62 5 (pc' := 66) (ls' := [(0, .inr (.inr (.ref 61))), (1, .inl (a1)), (2, .inl (a2)), (3, .inl (a3)), (4, .inl (q5)), (5, .inl (v13))]) (st' := [.inl ((a3 - 1)), .inl ((q34 + v13)), .inl (q28), .inr (.inr (.ref 61))]) (σ' := σ31) rfl ?_
            refine wk_call tt_62 rfl rfl rfl rfl rfl tt_62 rfl (by decide) (bw_8 z σ31 (q28) ((q34 + v13)) ((a3 - 1)) (by have := sg_n_pred (x := a3) (by omega); omega)) (fun w36 σ37 hq38 => ?_)
            obtain ⟨rfl, hF39⟩ := hq38
            have hF40 := sg_F_t hF35 (sg_F_m (L := [65, 68]) hF39 rfl)
            refine wk_b tt_62 2 (pc' := 27) (ls' := [(5, .inl ((v13 + 1))), (0, .inr (.inr (.ref 61))), (1, .inl (a1)), (2, .inl (a2)), (3, .inl (a3)), (4, .inl (q5))]) (st' := []) (σ' := σ37) rfl ?_
            refine wk_ls [(0, .inr (.inr (.ref 61))), (1, .inl (a1)), (2, .inl (a2)), (3, .inl (a3)), (4, .inl (q5)), (5, .inl ((v13 + 1)))] rfl ⟨rfl, rfl, rfl, rfl, rfl, rfl, trivial⟩ (ih17 _ ?_ σ37 ((v13 + 1)) hF40 ?_ rfl)
            · omega
            · omega
    refine wk_ls [(0, .inr (.inr (.ref 61))), (1, .inl (a1)), (2, .inl (a2)), (3, .inl (a3)), (4, .inl (q5)), (5, .inl (0))] rfl ⟨rfl, rfl, rfl, rfl, rfl, rfl, trivial⟩ ?_
    exact lp19 _ σ8 (0) hF11 (by omega) rfl
-- NestedVectors$FlatRun.draw x.flatRun a1 a2
set_option maxRecDepth 8000 in
theorem bw_10 (z : Value) (σ : sg_S) (a1 : Int) (a2 : Int) (hp : sg_n a2 ≤ 3) : wx z 6 61 0 [(0, .inr (.inr (.ref 61))), (1, .inl (a1)), (2, .inl (a2))] [] σ (fun v σ' => v = none ∧ sg_F [65, 68] σ σ') := by
  have hF0 := sg_F_r [65, 68] σ
  refine wk_b tt_61 4 (pc' := 4) (ls' := [(0, .inr (.inr (.ref 61))), (1, .inl (a1)), (2, .inl (a2))]) (st' := [.inl (a2), .inl (0), .inl (a1), .inr (.inr (.ref 61))]) (σ' := σ) rfl ?_
  refine wk_call tt_61 rfl rfl rfl rfl rfl tt_62 rfl (by decide) (bw_9 z σ (a1) (0) (a2) hp) (fun w1 σ2 hq3 => ?_)
  obtain ⟨rfl, hF4⟩ := hq3
  have hF5 := sg_F_t hF0 (sg_F_m (L := [65, 68]) hF4 rfl)
  exact wk_rV tt_61 rfl rfl ⟨rfl, hF5⟩
-- NestedVectors$Image.letter x.flatRun.image a1
set_option maxRecDepth 8000 in
theorem bw_11 (z : Value) (σ : sg_S) (a1 : Int) : wx z 0 93 0 [(0, .inr (.inr (.ref 65))), (1, .inl (a1))] [] σ (fun v σ' => v = none ∧ sg_F [65, 67] σ σ') := by
  have hF0 := sg_F_r [65, 67] σ
  refine wk_b tt_93 2 (pc' := 4) (ls' := [(0, .inr (.inr (.ref 65))), (1, .inl (a1))]) (st' := [.inl ((sg_g σ 65 5))]) (σ' := σ) rfl ?_
  refine wk_ifn tt_93 (tgt := 30) rfl rfl (fun h1 => ?_) (fun h1 => ?_)
  ·
    simp only [sg_c, sg_nc] at h1
    refine wk_b tt_93 6 (pc' := 40) (ls' := [(0, .inr (.inr (.ref 65))), (1, .inl (a1))]) (st' := []) (σ' := (sg_w σ 65 5 (((sg_g σ 65 5) + 1)))) rfl ?_
    have hF2 : sg_F [65, 67] σ (sg_w σ 65 5 (((sg_g σ 65 5) + 1))) := (sg_F_w hF0 rfl _)
    generalize (sg_w σ 65 5 (((sg_g σ 65 5) + 1))) = σ3 at hF2 ⊢
    exact wk_rV tt_93 rfl rfl ⟨rfl, hF2⟩
  ·
    simp only [sg_c, sg_nc] at h1
    refine wk_b tt_93 5 (pc' := 16) (ls' := [(0, .inr (.inr (.ref 65))), (1, .inl (a1))]) (st' := [.inl (2000), .inl ((sg_g σ 65 5))]) (σ' := σ) rfl ?_
    refine wk_if2n tt_93 (tgt := 30) rfl rfl (fun h4 => ?_) (fun h4 => ?_)
    ·
      have h4_r := sg_Rn (2000)
      have h4_q := sg_Rn ((sg_g σ 65 5))
      have h4_l := sg_id (z := 2000) (by decide)
      simp only [sg_c, sg_nc] at h4
      refine wk_b tt_93 6 (pc' := 40) (ls' := [(0, .inr (.inr (.ref 65))), (1, .inl (a1))]) (st' := []) (σ' := (sg_w σ 65 5 (((sg_g σ 65 5) + 1)))) rfl ?_
      have hF5 : sg_F [65, 67] σ (sg_w σ 65 5 (((sg_g σ 65 5) + 1))) := (sg_F_w hF0 rfl _)
      generalize (sg_w σ 65 5 (((sg_g σ 65 5) + 1))) = σ6 at hF5 ⊢
      exact wk_rV tt_93 rfl rfl ⟨rfl, hF5⟩
    ·
      have h4_r := sg_Rn (2000)
      have h4_q := sg_Rn ((sg_g σ 65 5))
      have h4_l := sg_id (z := 2000) (by decide)
      simp only [sg_c, sg_nc] at h4
      refine wk_b tt_93 6 (pc' := 29) (ls' := [(0, .inr (.inr (.ref 65))), (1, .inl (a1))]) (st' := [.inl ((((sg_i (a1)).toInt8.toInt32).toInt)), .inl ((sg_g σ 65 5)), .inr (.inr (.ref 67))]) (σ' := σ) rfl ?_
      refine wk_n2 ?_
      refine wk_bs (Or.inl rfl) tt_93 rfl rfl (by omega) (by omega) (by omega) ?_
      have hF7 : sg_F [65, 67] σ (sg_w σ 67 (sg_n ((sg_g σ 65 5))) ((am_nb 1 (sg_i ((((sg_i (a1)).toInt8.toInt32).toInt)))).toInt)) := (sg_F_w hF0 rfl _)
      generalize (sg_w σ 67 (sg_n ((sg_g σ 65 5))) ((am_nb 1 (sg_i ((((sg_i (a1)).toInt8.toInt32).toInt)))).toInt)) = σ8 at hF7 ⊢
      refine wk_b tt_93 6 (pc' := 40) (ls' := [(0, .inr (.inr (.ref 65))), (1, .inl (a1))]) (st' := []) (σ' := (sg_w σ8 65 5 (((sg_g σ8 65 5) + 1)))) rfl ?_
      have hF9 : sg_F [65, 67] σ (sg_w σ8 65 5 (((sg_g σ8 65 5) + 1))) := (sg_F_w hF7 rfl _)
      generalize (sg_w σ8 65 5 (((sg_g σ8 65 5) + 1))) = σ10 at hF9 ⊢
      exact wk_rV tt_93 rfl rfl ⟨rfl, hF9⟩
