/-! Methods of the nested run (3): they end, and but for their cells all is as it was. -/
-- NestedVectors$NestedRun.fork x.nestedRun a1
set_option maxRecDepth 8000 in
theorem bt_55 (z : Value) (σ : sg_S) (a1 : Int) : wx z 2 142 0 [(0, .inr (.inr (.ref 45))), (1, .inl (a1))] [] σ (fun v σ' => v = none ∧ sg_F [45] σ σ') := by
  have hF0 := sg_F_r [45] σ
  refine wk_b tt_142 1 (pc' := 1) (ls' := [(0, .inr (.inr (.ref 45))), (1, .inl (a1))]) (st' := [.inr (.inr (.ref 45))]) (σ' := σ) rfl ?_
  refine wk_call tt_142 rfl rfl rfl rfl rfl tt_124 rfl (by decide) (bt_3 z σ) (fun w1 σ2 hq3 => ?_)
  obtain ⟨⟨q5, rfl⟩, hF4⟩ := hq3
  have hF6 := sg_F_t hF0 (sg_F_m (L := [45]) hF4 rfl)
  refine wk_ifb tt_142 (tgt := 22) rfl rfl ?_ ?_
  ·
    exact wk_rV tt_142 rfl rfl ⟨rfl, hF6⟩
  ·
    refine wk_b tt_142 5 (pc' := 16) (ls' := [(0, .inr (.inr (.ref 45))), (1, .inl (a1))]) (st' := [.inl (a1), .inr (.inr (.ref 32)), .inr (.inr (.ref 45))]) (σ' := σ2) rfl ?_
    refine wk_callp tt_142 rfl rfl rfl rfl rfl tt_5 rfl (by decide) (at_i z σ2 32 200 (a1) rfl (by decide)) ?_
    generalize sx_at σ2 32 200 (sg_n (a1)) = q11
    refine wk_b tt_142 1 (pc' := 22) (ls' := [(0, .inr (.inr (.ref 45))), (1, .inl (a1))]) (st' := []) (σ' := (sg_w σ2 45 8 (q11))) rfl ?_
    have hF12 : sg_F [45] σ (sg_w σ2 45 8 (q11)) := (sg_F_w hF6 rfl _)
    generalize (sg_w σ2 45 8 (q11)) = σ13 at hF12 ⊢
    exact wk_rV tt_142 rfl rfl ⟨rfl, hF12⟩
-- NestedVectors$NestedRun.turn x.nestedRun a1
set_option maxRecDepth 8000 in
theorem bt_56 (z : Value) (σ : sg_S) (a1 : Int) : wx z 1 164 0 [(0, .inr (.inr (.ref 45))), (1, .inl (a1))] [] σ (fun v σ' => v = none ∧ sg_F [45] σ σ') := by
  have hF0 := sg_F_r [45] σ
  refine wk_b tt_164 5 (pc' := 9) (ls' := [(0, .inr (.inr (.ref 45))), (1, .inl (a1))]) (st' := [.inl (a1), .inr (.inr (.ref 33)), .inr (.inr (.ref 45))]) (σ' := σ) rfl ?_
  refine wk_callp tt_164 rfl rfl rfl rfl rfl tt_5 rfl (by decide) (at_i z σ 33 200 (a1) rfl (by decide)) ?_
  generalize sx_at σ 33 200 (sg_n (a1)) = q4
  refine wk_b tt_164 1 (pc' := 15) (ls' := [(0, .inr (.inr (.ref 45))), (1, .inl (a1))]) (st' := []) (σ' := (sg_w σ 45 8 (q4))) rfl ?_
  have hF5 : sg_F [45] σ (sg_w σ 45 8 (q4)) := (sg_F_w hF0 rfl _)
  generalize (sg_w σ 45 8 (q4)) = σ6 at hF5 ⊢
  exact wk_rV tt_164 rfl rfl ⟨rfl, hF5⟩
-- NestedVectors$NestedRun.join x.nestedRun a1
set_option maxRecDepth 8000 in
theorem bt_57 (z : Value) (σ : sg_S) (a1 : Int) : wx z 0 146 0 [(0, .inr (.inr (.ref 45))), (1, .inl (a1))] [] σ (fun v σ' => v = none ∧ sg_F [] σ σ') := by
  have hF0 := sg_F_r [] σ
  exact wk_rV tt_146 rfl rfl ⟨rfl, hF0⟩
-- NestedVectors$NestedRun.visit x.nestedRun a1
set_option maxRecDepth 8000 in
theorem bt_58 (z : Value) (σ : sg_S) (a1 : Int) : wx z 2 165 0 [(0, .inr (.inr (.ref 45))), (1, .inl (a1))] [] σ (fun v σ' => v = none ∧ sg_F [45, 46] σ σ') := by
  have hF0 := sg_F_r [45, 46] σ
  refine wk_b tt_165 3 (pc' := 5) (ls' := [(0, .inr (.inr (.ref 45))), (1, .inl (a1))]) (st' := [.inl (a1), .inr (.inr (.ref 57))]) (σ' := σ) rfl ?_
  refine wk_callp tt_165 rfl rfl rfl rfl rfl tt_5 rfl (by decide) (at_i z σ 57 200 (a1) rfl (by decide)) ?_
  generalize sx_at σ 57 200 (sg_n (a1)) = q4
  refine wk_b tt_165 5 (pc' := 15) (ls' := [(2, .inl (q4)), (0, .inr (.inr (.ref 45))), (1, .inl (a1))]) (st' := [.inl (a1), .inr (.inr (.ref 58)), .inl (q4)]) (σ' := σ) rfl ?_
  refine wk_callp tt_165 rfl rfl rfl rfl rfl tt_5 rfl (by decide) (at_i z σ 58 200 (a1) rfl (by decide)) ?_
  generalize sx_at σ 58 200 (sg_n (a1)) = q8
  refine wk_if2b tt_165 (tgt := 58) rfl rfl ?_ ?_
  ·
    refine wk_b tt_165 4 (pc' := 66) (ls' := [(2, .inl (q4)), (0, .inr (.inr (.ref 45))), (1, .inl (a1))]) (st' := [.inl (a1), .inr (.inr (.ref 13))]) (σ' := σ) rfl ?_
    refine wk_callp tt_165 rfl rfl rfl rfl rfl tt_5 rfl (by decide) (at_i z σ 13 200 (a1) rfl (by decide)) ?_
    generalize sx_at σ 13 200 (sg_n (a1)) = q13
    refine wk_b tt_165 3 (pc' := 73) (ls' := [(4, .inl (0)), (3, .inl (q13)), (2, .inl (q4)), (0, .inr (.inr (.ref 45))), (1, .inl (a1))]) (st' := []) (σ' := σ) rfl ?_
    have ex17 : ∀ (σ15 : sg_S), sg_F [45, 46] σ σ15 → wx z 2 165 141 [(0, .inr (.inr (.ref 45))), (1, .inl (a1))] [] σ15 (fun v σ' => v = none ∧ sg_F [45, 46] σ σ') := by
      intro σ15 hF16
      refine wk_b tt_165 8 (pc' := 155) (ls' := [(0, .inr (.inr (.ref 45))), (1, .inl (a1))]) (st' := [.inl (a1), .inr (.inr (.ref 32)), .inr (.inr (.ref 45))]) (σ' := (sg_w σ15 45 23 (0))) rfl ?_
      have hF18 : sg_F [45, 46] σ (sg_w σ15 45 23 (0)) := (sg_F_w hF16 rfl _)
      generalize (sg_w σ15 45 23 (0)) = σ19 at hF18 ⊢
      refine wk_callp tt_165 rfl rfl rfl rfl rfl tt_5 rfl (by decide) (at_i z σ19 32 200 (a1) rfl (by decide)) ?_
      generalize sx_at σ19 32 200 (sg_n (a1)) = q23
      refine wk_b tt_165 1 (pc' := 161) (ls' := [(0, .inr (.inr (.ref 45))), (1, .inl (a1))]) (st' := []) (σ' := (sg_w σ19 45 8 (q23))) rfl ?_
      have hF24 : sg_F [45, 46] σ (sg_w σ19 45 8 (q23)) := (sg_F_w hF18 rfl _)
      generalize (sg_w σ19 45 8 (q23)) = σ25 at hF24 ⊢
      exact wk_rV tt_165 rfl rfl ⟨rfl, hF24⟩
    have lp28 : ∀ (m27 : Nat) (σ15 : sg_S) (v14 : Int), sg_F [45, 46] σ σ15 → (sg_R v14) → (2147483647 - v14).toNat = m27 → wx z 2 165 73 [(0, .inr (.inr (.ref 45))), (1, .inl (a1)), (2, .inl (q4)), (3, .inl (q13)), (4, .inl (v14))] [] σ15 (fun v σ' => v = none ∧ sg_F [45, 46] σ σ') := by
      intro m27
      induction m27 using Nat.strongRecOn with
      | _ m27 ih26 =>
        intro σ15 v14 hF16 hR29 hm30
        have hR29_i := sg_id (z := v14) (by omega)
        refine wk_b tt_165 2 (pc' := 76) (ls' := [(0, .inr (.inr (.ref 45))), (1, .inl (a1)), (2, .inl (q4)), (3, .inl (q13)), (4, .inl (v14))]) (st' := [.inl (q13), .inl (v14)]) (σ' := σ15) rfl ?_
        refine wk_if2n tt_165 (tgt := 141) rfl rfl (fun h31 => ?_) (fun h31 => ?_)
        ·
          have h31_r := sg_Rn (q13)
          have h31_q := sg_Rn (v14)
          simp only [sg_c, sg_nc] at h31
          exact wk_ls [(0, .inr (.inr (.ref 45))), (1, .inl (a1))] rfl ⟨rfl, rfl, trivial⟩ (ex17 σ15 hF16)
        ·
          have h31_r := sg_Rn (q13)
          have h31_q := sg_Rn (v14)
          simp only [sg_c, sg_nc] at h31
          refine wk_b tt_165 2 (pc' := 82) (ls' := [(0, .inr (.inr (.ref 45))), (1, .inl (a1)), (2, .inl (q4)), (3, .inl (q13)), (4, .inl (v14))]) (st' := [.inl (4), .inl (v14)]) (σ' := σ15) rfl ?_
          refine wk_if2n tt_165 (tgt := 141) rfl rfl (fun h32 => ?_) (fun h32 => ?_)
          ·
            have h32_r := sg_Rn (4)
            have h32_q := sg_Rn (v14)
            have h32_l := sg_id (z := 4) (by decide)
            simp only [sg_c, sg_nc] at h32
            exact wk_ls [(0, .inr (.inr (.ref 45))), (1, .inl (a1))] rfl ⟨rfl, rfl, trivial⟩ (ex17 σ15 hF16)
          ·
            have h32_r := sg_Rn (4)
            have h32_q := sg_Rn (v14)
            have h32_l := sg_id (z := 4) (by decide)
            simp only [sg_c, sg_nc] at h32
            refine wk_b tt_165 5 (pc' := 94) (ls' := [(0, .inr (.inr (.ref 45))), (1, .inl (a1)), (2, .inl (q4)), (3, .inl (q13)), (4, .inl (v14))]) (st' := [.inl (a1), .inr (.inr (.ref 56)), .inr (.inr (.ref 48))]) (σ' := σ15) rfl ?_
            refine wk_callp tt_165 rfl rfl rfl rfl rfl tt_5 rfl (by decide) (at_i z σ15 56 200 (a1) rfl (by decide)) ?_
            generalize sx_at σ15 56 200 (sg_n (a1)) = q36
            refine wk_b tt_165 4 (pc' := 102) (ls' := [(0, .inr (.inr (.ref 45))), (1, .inl (a1)), (2, .inl (q4)), (3, .inl (q13)), (4, .inl (v14))]) (st' := [.inl (((q36 - q13) + v14)), .inr (.inr (.ref 48))]) (σ' := σ15) rfl ?_
            refine wk_callp tt_165 rfl rfl rfl rfl rfl tt_5 rfl (by decide) (at_i z σ15 48 3200 (((q36 - q13) + v14)) rfl (by decide)) ?_
            generalize sx_at σ15 48 3200 (sg_n (((q36 - q13) + v14))) = q40
            refine wk_b tt_165 7 (pc' := 119) (ls' := [(5, .inl (q40)), (0, .inr (.inr (.ref 45))), (1, .inl (a1)), (2, .inl (q4)), (3, .inl (q13)), (4, .inl (v14))]) (st' := [.inl (a1), .inr (.inr (.ref 16)), .inr (.inr (.ref 46))]) (σ' := σ15) rfl ?_
            refine wk_callp tt_165 rfl rfl rfl rfl rfl tt_5 rfl (by decide) (at_i z σ15 16 200 (a1) rfl (by decide)) ?_
            generalize sx_at σ15 16 200 (sg_n (a1)) = q44
            refine wk_b tt_165 5 (pc' := 129) (ls' := [(5, .inl (q40)), (0, .inr (.inr (.ref 45))), (1, .inl (a1)), (2, .inl (q4)), (3, .inl (q13)), (4, .inl (v14))]) (st' := [.inl (q4), .inl (q40), .inr (.inr (.ref 45)), .inl ((q44 + v14)), .inr (.inr (.ref 46))]) (σ' := σ15) rfl ?_
            refine wk_call tt_165 rfl rfl rfl rfl rfl tt_145 rfl (by decide) (bt_6 z σ15 (q40) (q4)) (fun w45 σ46 hq47 => ?_)
            obtain ⟨⟨q49, rfl⟩, hF48⟩ := hq47
            have hF50 := sg_F_t hF16 (sg_F_m (L := [45, 46]) hF48 rfl)
            refine wk_callp tt_165 rfl rfl rfl rfl rfl tt_21 rfl (by decide) (pt_i z σ46 46 272 ((q44 + v14)) (q49) rfl (by decide)) ?_
            have hF54 : sg_F [45, 46] σ (sx_put σ46 46 272 (sg_n ((q44 + v14))) (q49)) := sg_F_p hF50 rfl _ _ _
            generalize (sx_put σ46 46 272 (sg_n ((q44 + v14))) (q49)) = σ55 at hF54 ⊢
            refine wk_b tt_165 2 (pc' := 73) (ls' := [(4, .inl ((v14 + 1))), (5, .inl (q40)), (0, .inr (.inr (.ref 45))), (1, .inl (a1)), (2, .inl (q4)), (3, .inl (q13))]) (st' := []) (σ' := σ55) rfl ?_
            refine wk_ls [(0, .inr (.inr (.ref 45))), (1, .inl (a1)), (2, .inl (q4)), (3, .inl (q13)), (4, .inl ((v14 + 1)))] rfl ⟨rfl, rfl, rfl, rfl, rfl, trivial⟩ (ih26 _ ?_ σ55 ((v14 + 1)) hF54 ?_ rfl)
            · omega
            · omega
    refine wk_ls [(0, .inr (.inr (.ref 45))), (1, .inl (a1)), (2, .inl (q4)), (3, .inl (q13)), (4, .inl (0))] rfl ⟨rfl, rfl, rfl, rfl, rfl, trivial⟩ ?_
    exact lp28 _ σ (0) hF0 (by omega) rfl
  ·
    refine wk_b tt_165 4 (pc' := 27) (ls' := [(2, .inl (q4)), (0, .inr (.inr (.ref 45))), (1, .inl (a1))]) (st' := [.inl (a1), .inr (.inr (.ref 59)), .inr (.inr (.ref 45))]) (σ' := σ) rfl ?_
    refine wk_callp tt_165 rfl rfl rfl rfl rfl tt_5 rfl (by decide) (at_i z σ 59 200 (a1) rfl (by decide)) ?_
    generalize sx_at σ 59 200 (sg_n (a1)) = q59
    refine wk_b tt_165 3 (pc' := 35) (ls' := [(2, .inl (q4)), (0, .inr (.inr (.ref 45))), (1, .inl (a1))]) (st' := [.inl (a1), .inr (.inr (.ref 60)), .inl (q59), .inr (.inr (.ref 45))]) (σ' := σ) rfl ?_
    refine wk_callp tt_165 rfl rfl rfl rfl rfl tt_5 rfl (by decide) (at_i z σ 60 200 (a1) rfl (by decide)) ?_
    generalize sx_at σ 60 200 (sg_n (a1)) = q63
    refine wk_b tt_165 7 (pc' := 51) (ls' := [(2, .inl (q4)), (0, .inr (.inr (.ref 45))), (1, .inl (a1))]) (st' := [.inl (a1), .inr (.inr (.ref 33)), .inr (.inr (.ref 45))]) (σ' := (sg_w σ 45 23 ((q59 + q63)))) rfl ?_
    have hF64 : sg_F [45, 46] σ (sg_w σ 45 23 ((q59 + q63))) := (sg_F_w hF0 rfl _)
    generalize (sg_w σ 45 23 ((q59 + q63))) = σ65 at hF64 ⊢
    refine wk_callp tt_165 rfl rfl rfl rfl rfl tt_5 rfl (by decide) (at_i z σ65 33 200 (a1) rfl (by decide)) ?_
    generalize sx_at σ65 33 200 (sg_n (a1)) = q69
    refine wk_b tt_165 1 (pc' := 57) (ls' := [(2, .inl (q4)), (0, .inr (.inr (.ref 45))), (1, .inl (a1))]) (st' := []) (σ' := (sg_w σ65 45 8 (q69))) rfl ?_
    have hF70 : sg_F [45, 46] σ (sg_w σ65 45 8 (q69)) := (sg_F_w hF64 rfl _)
    generalize (sg_w σ65 45 8 (q69)) = σ71 at hF70 ⊢
    exact wk_rV tt_165 rfl rfl ⟨rfl, hF70⟩
-- NestedVectors$NestedRun.open x.nestedRun a1
set_option maxRecDepth 8000 in
theorem bt_59 (z : Value) (σ : sg_S) (a1 : Int) : wx z 3 152 0 [(0, .inr (.inr (.ref 45))), (1, .inl (a1))] [] σ (fun v σ' => v = none ∧ sg_F [45, 46, 56, 57, 58, 59, 60] σ σ') := by
  have hF0 := sg_F_r [45, 46, 56, 57, 58, 59, 60] σ
  refine wk_b tt_152 4 (pc' := 8) (ls' := [(0, .inr (.inr (.ref 45))), (1, .inl (a1))]) (st' := [.inl (a1), .inr (.inr (.ref 13))]) (σ' := σ) rfl ?_
  refine wk_callp tt_152 rfl rfl rfl rfl rfl tt_5 rfl (by decide) (at_i z σ 13 200 (a1) rfl (by decide)) ?_
  generalize sx_at σ 13 200 (sg_n (a1)) = q4
  refine wk_b tt_152 8 (pc' := 23) (ls' := [(2, .inl (q4)), (0, .inr (.inr (.ref 45))), (1, .inl (a1))]) (st' := [.inl (((sg_g σ 45 7) - q4)), .inr (.inr (.ref 48)), .inr (.inr (.ref 45))]) (σ' := σ) rfl ?_
  refine wk_callp tt_152 rfl rfl rfl rfl rfl tt_5 rfl (by decide) (at_i z σ 48 3200 (((sg_g σ 45 7) - q4)) rfl (by decide)) ?_
  generalize sx_at σ 48 3200 (sg_n (((sg_g σ 45 7) - q4))) = q8
  refine wk_call tt_152 rfl rfl rfl rfl rfl tt_149 rfl (by decide) (bt_4 z σ (q8)) (fun w9 σ10 hq11 => ?_)
  obtain ⟨⟨q13, rfl⟩, hF12⟩ := hq11
  have hF14 := sg_F_t hF0 (sg_F_m (L := [45, 46, 56, 57, 58, 59, 60]) hF12 rfl)
  refine wk_b tt_152 3 (pc' := 33) (ls' := [(4, .inl (1)), (3, .inl (q13)), (2, .inl (q4)), (0, .inr (.inr (.ref 45))), (1, .inl (a1))]) (st' := []) (σ' := σ10) rfl ?_
  have ex18 : ∀ (σ16 : sg_S), sg_F [45, 46, 56, 57, 58, 59, 60] σ σ16 → wx z 3 152 81 [(0, .inr (.inr (.ref 45))), (1, .inl (a1)), (3, .inl (q13))] [] σ16 (fun v σ' => v = none ∧ sg_F [45, 46, 56, 57, 58, 59, 60] σ σ') := by
    intro σ16 hF17
    refine wk_b tt_152 5 (pc' := 90) (ls' := [(0, .inr (.inr (.ref 45))), (1, .inl (a1)), (3, .inl (q13))]) (st' := [.inl ((sg_g σ16 45 7)), .inl (a1), .inr (.inr (.ref 56))]) (σ' := σ16) rfl ?_
    refine wk_callp tt_152 rfl rfl rfl rfl rfl tt_21 rfl (by decide) (pt_i z σ16 56 200 (a1) ((sg_g σ16 45 7)) rfl (by decide)) ?_
    have hF22 : sg_F [45, 46, 56, 57, 58, 59, 60] σ (sx_put σ16 56 200 (sg_n (a1)) ((sg_g σ16 45 7))) := sg_F_p hF17 rfl _ _ _
    generalize (sx_put σ16 56 200 (sg_n (a1)) ((sg_g σ16 45 7))) = σ23 at hF22 ⊢
    refine wk_b tt_152 4 (pc' := 99) (ls' := [(0, .inr (.inr (.ref 45))), (1, .inl (a1)), (3, .inl (q13))]) (st' := [.inl (q13), .inl (a1), .inr (.inr (.ref 58))]) (σ' := σ23) rfl ?_
    refine wk_callp tt_152 rfl rfl rfl rfl rfl tt_21 rfl (by decide) (pt_i z σ23 58 200 (a1) (q13) rfl (by decide)) ?_
    have hF27 : sg_F [45, 46, 56, 57, 58, 59, 60] σ (sx_put σ23 58 200 (sg_n (a1)) (q13)) := sg_F_p hF22 rfl _ _ _
    generalize (sx_put σ23 58 200 (sg_n (a1)) (q13)) = σ28 at hF27 ⊢
    refine wk_b tt_152 4 (pc' := 108) (ls' := [(0, .inr (.inr (.ref 45))), (1, .inl (a1)), (3, .inl (q13))]) (st' := [.inl (0), .inl (a1), .inr (.inr (.ref 57))]) (σ' := σ28) rfl ?_
    refine wk_callp tt_152 rfl rfl rfl rfl rfl tt_21 rfl (by decide) (pt_i z σ28 57 200 (a1) (0) rfl (by decide)) ?_
    have hF32 : sg_F [45, 46, 56, 57, 58, 59, 60] σ (sx_put σ28 57 200 (sg_n (a1)) (0)) := sg_F_p hF27 rfl _ _ _
    generalize (sx_put σ28 57 200 (sg_n (a1)) (0)) = σ33 at hF32 ⊢
    refine wk_b tt_152 5 (pc' := 120) (ls' := [(0, .inr (.inr (.ref 45))), (1, .inl (a1)), (3, .inl (q13))]) (st' := [.inl ((sg_g σ33 45 23)), .inl (a1), .inr (.inr (.ref 59))]) (σ' := σ33) rfl ?_
    refine wk_callp tt_152 rfl rfl rfl rfl rfl tt_21 rfl (by decide) (pt_i z σ33 59 200 (a1) ((sg_g σ33 45 23)) rfl (by decide)) ?_
    have hF37 : sg_F [45, 46, 56, 57, 58, 59, 60] σ (sx_put σ33 59 200 (sg_n (a1)) ((sg_g σ33 45 23))) := sg_F_p hF32 rfl _ _ _
    generalize (sx_put σ33 59 200 (sg_n (a1)) ((sg_g σ33 45 23))) = σ38 at hF37 ⊢
    refine wk_b tt_152 4 (pc' := 129) (ls' := [(0, .inr (.inr (.ref 45))), (1, .inl (a1)), (3, .inl (q13))]) (st' := [.inl (0), .inl (a1), .inr (.inr (.ref 60))]) (σ' := σ38) rfl ?_
    refine wk_callp tt_152 rfl rfl rfl rfl rfl tt_21 rfl (by decide) (pt_i z σ38 60 200 (a1) (0) rfl (by decide)) ?_
    have hF42 : sg_F [45, 46, 56, 57, 58, 59, 60] σ (sx_put σ38 60 200 (sg_n (a1)) (0)) := sg_F_p hF37 rfl _ _ _
    generalize (sx_put σ38 60 200 (sg_n (a1)) (0)) = σ43 at hF42 ⊢
    refine wk_b tt_152 2 (pc' := 134) (ls' := [(0, .inr (.inr (.ref 45))), (1, .inl (a1)), (3, .inl (q13))]) (st' := [.inl (a1), .inr (.inr (.ref 45))]) (σ' := σ43) rfl ?_
    refine wk_call tt_152 rfl rfl rfl rfl rfl tt_165 rfl (by decide) (bt_58 z σ43 (a1)) (fun w44 σ45 hq46 => ?_)
    obtain ⟨rfl, hF47⟩ := hq46
    have hF48 := sg_F_t hF42 (sg_F_m (L := [45, 46, 56, 57, 58, 59, 60]) hF47 rfl)
    exact wk_rV tt_152 rfl rfl ⟨rfl, hF48⟩
  have lp51 : ∀ (m50 : Nat) (σ16 : sg_S) (v15 : Int), sg_F [45, 46, 56, 57, 58, 59, 60] σ σ16 → (sg_R v15) → (2147483647 - v15).toNat = m50 → wx z 3 152 33 [(0, .inr (.inr (.ref 45))), (1, .inl (a1)), (2, .inl (q4)), (3, .inl (q13)), (4, .inl (v15))] [] σ16 (fun v σ' => v = none ∧ sg_F [45, 46, 56, 57, 58, 59, 60] σ σ') := by
    intro m50
    induction m50 using Nat.strongRecOn with
    | _ m50 ih49 =>
      intro σ16 v15 hF17 hR52 hm53
      have hR52_i := sg_id (z := v15) (by omega)
      refine wk_b tt_152 2 (pc' := 36) (ls' := [(0, .inr (.inr (.ref 45))), (1, .inl (a1)), (2, .inl (q4)), (3, .inl (q13)), (4, .inl (v15))]) (st' := [.inl (q4), .inl (v15)]) (σ' := σ16) rfl ?_
      refine wk_if2n tt_152 (tgt := 81) rfl rfl (fun h54 => ?_) (fun h54 => ?_)
      ·
        have h54_r := sg_Rn (q4)
        have h54_q := sg_Rn (v15)
        simp only [sg_c, sg_nc] at h54
        exact wk_ls [(0, .inr (.inr (.ref 45))), (1, .inl (a1)), (3, .inl (q13))] rfl ⟨rfl, rfl, rfl, trivial⟩ (ex18 σ16 hF17)
      ·
        have h54_r := sg_Rn (q4)
        have h54_q := sg_Rn (v15)
        simp only [sg_c, sg_nc] at h54
        refine wk_b tt_152 2 (pc' := 42) (ls' := [(0, .inr (.inr (.ref 45))), (1, .inl (a1)), (2, .inl (q4)), (3, .inl (q13)), (4, .inl (v15))]) (st' := [.inl (4), .inl (v15)]) (σ' := σ16) rfl ?_
        refine wk_if2n tt_152 (tgt := 81) rfl rfl (fun h55 => ?_) (fun h55 => ?_)
        ·
          have h55_r := sg_Rn (4)
          have h55_q := sg_Rn (v15)
          have h55_l := sg_id (z := 4) (by decide)
          simp only [sg_c, sg_nc] at h55
          exact wk_ls [(0, .inr (.inr (.ref 45))), (1, .inl (a1)), (3, .inl (q13))] rfl ⟨rfl, rfl, rfl, trivial⟩ (ex18 σ16 hF17)
        ·
          have h55_r := sg_Rn (4)
          have h55_q := sg_Rn (v15)
          have h55_l := sg_id (z := 4) (by decide)
          simp only [sg_c, sg_nc] at h55
          refine wk_b tt_152 9 (pc' := 59) (ls' := [(0, .inr (.inr (.ref 45))), (1, .inl (a1)), (2, .inl (q4)), (3, .inl (q13)), (4, .inl (v15))]) (st' := [.inl ((((sg_g σ16 45 7) - q4) + v15)), .inr (.inr (.ref 48)), .inr (.inr (.ref 45))]) (σ' := σ16) rfl ?_
          refine wk_callp tt_152 rfl rfl rfl rfl rfl tt_5 rfl (by decide) (at_i z σ16 48 3200 ((((sg_g σ16 45 7) - q4) + v15)) rfl (by decide)) ?_
          generalize sx_at σ16 48 3200 (sg_n ((((sg_g σ16 45 7) - q4) + v15))) = q59
          refine wk_call tt_152 rfl rfl rfl rfl rfl tt_149 rfl (by decide) (bt_4 z σ16 (q59)) (fun w60 σ61 hq62 => ?_)
          obtain ⟨⟨q64, rfl⟩, hF63⟩ := hq62
          have hF65 := sg_F_t hF17 (sg_F_m (L := [45, 46, 56, 57, 58, 59, 60]) hF63 rfl)
          refine wk_b tt_152 1 (pc' := 66) (ls' := [(0, .inr (.inr (.ref 45))), (1, .inl (a1)), (2, .inl (q4)), (3, .inl (q13)), (4, .inl (v15))]) (st' := [.inl (q13), .inl (q64)]) (σ' := σ61) rfl ?_
          refine wk_if2b tt_152 (tgt := 75) rfl rfl ?_ ?_
          ·
            refine wk_b tt_152 2 (pc' := 33) (ls' := [(4, .inl ((v15 + 1))), (0, .inr (.inr (.ref 45))), (1, .inl (a1)), (2, .inl (q4)), (3, .inl (q13))]) (st' := []) (σ' := σ61) rfl ?_
            refine wk_ls [(0, .inr (.inr (.ref 45))), (1, .inl (a1)), (2, .inl (q4)), (3, .inl (q13)), (4, .inl ((v15 + 1)))] rfl ⟨rfl, rfl, rfl, rfl, rfl, trivial⟩ (ih49 _ ?_ σ61 ((v15 + 1)) hF65 ?_ rfl)
            · omega
            · omega
          ·
            refine wk_b tt_152 3 (pc' := 74) (ls' := [(0, .inr (.inr (.ref 45))), (1, .inl (a1)), (2, .inl (q4)), (3, .inl (q13)), (4, .inl (v15))]) (st' := []) (σ' := (sg_w σ61 45 10 (3))) rfl ?_
            have hF67 : sg_F [45, 46, 56, 57, 58, 59, 60] σ (sg_w σ61 45 10 (3)) := (sg_F_w hF65 rfl _)
            generalize (sg_w σ61 45 10 (3)) = σ68 at hF67 ⊢
            exact wk_rV tt_152 rfl rfl ⟨rfl, hF67⟩
  refine wk_ls [(0, .inr (.inr (.ref 45))), (1, .inl (a1)), (2, .inl (q4)), (3, .inl (q13)), (4, .inl (1))] rfl ⟨rfl, rfl, rfl, rfl, rfl, trivial⟩ ?_
  exact lp51 _ σ10 (1) hF14 (by omega) rfl
-- NestedVectors$NestedRun.next x.nestedRun a1
set_option maxRecDepth 8000 in
theorem bt_60 (z : Value) (σ : sg_S) (a1 : Int) : wx z 3 151 0 [(0, .inr (.inr (.ref 45))), (1, .inl (a1))] [] σ (fun v σ' => v = none ∧ sg_F [45, 46, 57, 60] σ σ') := by
  have hF0 := sg_F_r [45, 46, 57, 60] σ
  refine wk_b tt_151 6 (pc' := 10) (ls' := [(0, .inr (.inr (.ref 45))), (1, .inl (a1))]) (st' := [.inl (a1), .inr (.inr (.ref 60)), .inl (a1), .inr (.inr (.ref 60))]) (σ' := σ) rfl ?_
  refine wk_callp tt_151 rfl rfl rfl rfl rfl tt_5 rfl (by decide) (at_i z σ 60 200 (a1) rfl (by decide)) ?_
  generalize sx_at σ 60 200 (sg_n (a1)) = q4
  refine wk_b tt_151 2 (pc' := 17) (ls' := [(0, .inr (.inr (.ref 45))), (1, .inl (a1))]) (st' := [.inl ((sg_g σ 45 23)), .inl (q4), .inl (a1), .inr (.inr (.ref 60))]) (σ' := σ) rfl ?_
  refine wk_maxb tt_151 rfl rfl (fun q => ?_)
  revert q; intro q5
  refine wk_callp tt_151 rfl rfl rfl rfl rfl tt_21 rfl (by decide) (pt_i z σ 60 200 (a1) (q5) rfl (by decide)) ?_
  have hF9 : sg_F [45, 46, 57, 60] σ (sx_put σ 60 200 (sg_n (a1)) (q5)) := sg_F_p hF0 rfl _ _ _
  generalize (sx_put σ 60 200 (sg_n (a1)) (q5)) = σ10 at hF9 ⊢
  refine wk_b tt_151 6 (pc' := 33) (ls' := [(0, .inr (.inr (.ref 45))), (1, .inl (a1))]) (st' := [.inl (a1), .inr (.inr (.ref 57)), .inl (a1), .inr (.inr (.ref 57))]) (σ' := σ10) rfl ?_
  refine wk_callp tt_151 rfl rfl rfl rfl rfl tt_5 rfl (by decide) (at_i z σ10 57 200 (a1) rfl (by decide)) ?_
  generalize sx_at σ10 57 200 (sg_n (a1)) = q14
  refine wk_b tt_151 2 (pc' := 38) (ls' := [(0, .inr (.inr (.ref 45))), (1, .inl (a1))]) (st' := [.inl ((q14 + 1)), .inl (a1), .inr (.inr (.ref 57))]) (σ' := σ10) rfl ?_
  refine wk_callp tt_151 rfl rfl rfl rfl rfl tt_21 rfl (by decide) (pt_i z σ10 57 200 (a1) ((q14 + 1)) rfl (by decide)) ?_
  have hF18 : sg_F [45, 46, 57, 60] σ (sx_put σ10 57 200 (sg_n (a1)) ((q14 + 1))) := sg_F_p hF9 rfl _ _ _
  generalize (sx_put σ10 57 200 (sg_n (a1)) ((q14 + 1))) = σ19 at hF18 ⊢
  refine wk_b tt_151 2 (pc' := 43) (ls' := [(0, .inr (.inr (.ref 45))), (1, .inl (a1))]) (st' := [.inl (a1), .inr (.inr (.ref 45))]) (σ' := σ19) rfl ?_
  refine wk_call tt_151 rfl rfl rfl rfl rfl tt_165 rfl (by decide) (bt_58 z σ19 (a1)) (fun w20 σ21 hq22 => ?_)
  obtain ⟨rfl, hF23⟩ := hq22
  have hF24 := sg_F_t hF18 (sg_F_m (L := [45, 46, 57, 60]) hF23 rfl)
  exact wk_rV tt_151 rfl rfl ⟨rfl, hF24⟩
-- NestedVectors$NestedRun.sift x.nestedRun a1
set_option maxRecDepth 8000 in
theorem bt_61 (z : Value) (σ : sg_S) (a1 : Int) : wx z 4 161 0 [(0, .inr (.inr (.ref 45))), (1, .inl (a1))] [] σ (fun v σ' => v = none ∧ sg_F [45, 46, 57, 60] σ σ') := by
  have hF0 := sg_F_r [45, 46, 57, 60] σ
  refine wk_b tt_161 1 (pc' := 1) (ls' := [(0, .inr (.inr (.ref 45))), (1, .inl (a1))]) (st' := [.inr (.inr (.ref 45))]) (σ' := σ) rfl ?_
  refine wk_call tt_161 rfl rfl rfl rfl rfl tt_124 rfl (by decide) (bt_3 z σ) (fun w1 σ2 hq3 => ?_)
  obtain ⟨⟨q5, rfl⟩, hF4⟩ := hq3
  have hF6 := sg_F_t hF0 (sg_F_m (L := [45, 46, 57, 60]) hF4 rfl)
  refine wk_ifb tt_161 (tgt := 12) rfl rfl ?_ ?_
  ·
    exact wk_rV tt_161 rfl rfl ⟨rfl, hF6⟩
  ·
    refine wk_b tt_161 2 (pc' := 9) (ls' := [(0, .inr (.inr (.ref 45))), (1, .inl (a1))]) (st' := [.inl (a1), .inr (.inr (.ref 45))]) (σ' := σ2) rfl ?_
    refine wk_call tt_161 rfl rfl rfl rfl rfl tt_151 rfl (by decide) (bt_60 z σ2 (a1)) (fun w8 σ9 hq10 => ?_)
    obtain ⟨rfl, hF11⟩ := hq10
    have hF12 := sg_F_t hF6 (sg_F_m (L := [45, 46, 57, 60]) hF11 rfl)
    exact wk_rV tt_161 rfl rfl ⟨rfl, hF12⟩
-- NestedVectors$Machine.run x.nestedRun a1
set_option maxRecDepth 8000 in
theorem bt_62 (z : Value) (σ : sg_S) (a1 : Int) (hp : sg_n a1 ≤ 3) : wx z 8 126 0 [(0, .inr (.inr (.ref 45))), (1, .inl (a1))] [] σ (fun v σ' => (∃ q, v = some (.inl q)) ∧ sg_F [45, 46, 47, 48, 49, 50, 51, 52, 53, 54, 55, 56, 57, 58, 59, 60] σ σ') := by
  have hF0 := sg_F_r [45, 46, 47, 48, 49, 50, 51, 52, 53, 54, 55, 56, 57, 58, 59, 60] σ
  refine wk_b tt_126 1 (pc' := 1) (ls' := [(0, .inr (.inr (.ref 45))), (1, .inl (a1))]) (st' := [.inr (.inr (.ref 45))]) (σ' := σ) rfl ?_
  refine wk_call tt_126 rfl rfl rfl rfl rfl tt_127 rfl (by decide) (bt_1 z σ) (fun w1 σ2 hq3 => ?_)
  obtain ⟨rfl, hF4⟩ := hq3
  have hF5 := sg_F_t hF0 (sg_F_m (L := [45, 46, 47, 48, 49, 50, 51, 52, 53, 54, 55, 56, 57, 58, 59, 60]) hF4 rfl)
  refine wk_b tt_126 2 (pc' := 6) (ls' := [(2, .inl (0)), (0, .inr (.inr (.ref 45))), (1, .inl (a1))]) (st' := []) (σ' := σ2) rfl ?_
  have ex9 : ∀ (σ7 : sg_S), sg_F [45, 46, 47, 48, 49, 50, 51, 52, 53, 54, 55, 56, 57, 58, 59, 60] σ σ7 → wx z 8 126 273 [(0, .inr (.inr (.ref 45))), (1, .inl (a1))] [] σ7 (fun v σ' => (∃ q, v = some (.inl q)) ∧ sg_F [45, 46, 47, 48, 49, 50, 51, 52, 53, 54, 55, 56, 57, 58, 59, 60] σ σ') := by
    intro σ7 hF8
    refine wk_b tt_126 2 (pc' := 275) (ls' := [(0, .inr (.inr (.ref 45))), (1, .inl (a1))]) (st' := [.inl (a1), .inr (.inr (.ref 45))]) (σ' := σ7) rfl ?_
    refine wk_call tt_126 rfl rfl rfl rfl rfl tt_118 rfl (by decide) (bt_19 z σ7 (a1) hp) (fun w10 σ11 hq12 => ?_)
    obtain ⟨rfl, hF13⟩ := hq12
    have hF14 := sg_F_t hF8 (sg_F_m (L := [45, 46, 47, 48, 49, 50, 51, 52, 53, 54, 55, 56, 57, 58, 59, 60]) hF13 rfl)
    refine wk_b tt_126 2 (pc' := 282) (ls' := [(0, .inr (.inr (.ref 45))), (1, .inl (a1))]) (st' := [.inl ((sg_g σ11 45 10))]) (σ' := σ11) rfl ?_
    exact wk_rI tt_126 rfl rfl ⟨⟨_, rfl⟩, hF14⟩
  have lp17 : ∀ (m16 : Nat) (σ7 : sg_S) (v6 : Int), sg_F [45, 46, 47, 48, 49, 50, 51, 52, 53, 54, 55, 56, 57, 58, 59, 60] σ σ7 → (sg_R v6) → (2147483647 - v6).toNat = m16 → wx z 8 126 6 [(0, .inr (.inr (.ref 45))), (1, .inl (a1)), (2, .inl (v6))] [] σ7 (fun v σ' => (∃ q, v = some (.inl q)) ∧ sg_F [45, 46, 47, 48, 49, 50, 51, 52, 53, 54, 55, 56, 57, 58, 59, 60] σ σ') := by
    intro m16
    induction m16 using Nat.strongRecOn with
    | _ m16 ih15 =>
      intro σ7 v6 hF8 hR18 hm19
      have hR18_i := sg_id (z := v6) (by omega)
      refine wk_b tt_126 2 (pc' := 9) (ls' := [(0, .inr (.inr (.ref 45))), (1, .inl (a1)), (2, .inl (v6))]) (st' := [.inl (100000), .inl (v6)]) (σ' := σ7) rfl ?_
      refine wk_if2n tt_126 (tgt := 273) rfl rfl (fun h20 => ?_) (fun h20 => ?_)
      ·
        have h20_r := sg_Rn (100000)
        have h20_q := sg_Rn (v6)
        have h20_l := sg_id (z := 100000) (by decide)
        simp only [sg_c, sg_nc] at h20
        exact wk_ls [(0, .inr (.inr (.ref 45))), (1, .inl (a1))] rfl ⟨rfl, rfl, trivial⟩ (ex9 σ7 hF8)
      ·
        have h20_r := sg_Rn (100000)
        have h20_q := sg_Rn (v6)
        have h20_l := sg_id (z := 100000) (by decide)
        simp only [sg_c, sg_nc] at h20
        refine wk_b tt_126 2 (pc' := 16) (ls' := [(0, .inr (.inr (.ref 45))), (1, .inl (a1)), (2, .inl (v6))]) (st' := [.inl ((sg_g σ7 45 8))]) (σ' := σ7) rfl ?_
        refine wk_ifb tt_126 (tgt := 273) rfl rfl ?_ ?_
        ·
          exact wk_ls [(0, .inr (.inr (.ref 45))), (1, .inl (a1))] rfl ⟨rfl, rfl, trivial⟩ (ex9 σ7 hF8)
        ·
          refine wk_b tt_126 2 (pc' := 23) (ls' := [(0, .inr (.inr (.ref 45))), (1, .inl (a1)), (2, .inl (v6))]) (st' := [.inl ((sg_g σ7 45 10))]) (σ' := σ7) rfl ?_
          refine wk_ifb tt_126 (tgt := 273) rfl rfl ?_ ?_
          ·
            exact wk_ls [(0, .inr (.inr (.ref 45))), (1, .inl (a1))] rfl ⟨rfl, rfl, trivial⟩ (ex9 σ7 hF8)
          ·
            refine wk_b tt_126 5 (pc' := 37) (ls' := [(0, .inr (.inr (.ref 45))), (1, .inl (a1)), (2, .inl (v6))]) (st' := [.inl ((sg_g σ7 45 8)), .inr (.inr (.ref 30))]) (σ' := σ7) rfl ?_
            refine wk_callp tt_126 rfl rfl rfl rfl rfl tt_5 rfl (by decide) (at_i z σ7 30 1013 ((sg_g σ7 45 8)) rfl (by decide)) ?_
            generalize sx_at σ7 30 1013 (sg_n ((sg_g σ7 45 8))) = q26
            refine wk_b tt_126 6 (pc' := 52) (ls' := [(3, .inl (q26)), (0, .inr (.inr (.ref 45))), (1, .inl (a1)), (2, .inl (v6))]) (st' := [.inl ((sg_g σ7 45 8)), .inr (.inr (.ref 29))]) (σ' := σ7) rfl ?_
            refine wk_callp tt_126 rfl rfl rfl rfl rfl tt_5 rfl (by decide) (at_i z σ7 29 1013 ((sg_g σ7 45 8)) rfl (by decide)) ?_
            generalize sx_at σ7 29 1013 (sg_n ((sg_g σ7 45 8))) = q30
            refine wk_b tt_126 8 (pc' := 69) (ls' := [(4, .inl (q30)), (3, .inl (q26)), (0, .inr (.inr (.ref 45))), (1, .inl (a1)), (2, .inl (v6))]) (st' := [.inl (q30)]) (σ' := (sg_w σ7 45 8 (((sg_g σ7 45 8) + 1)))) rfl ?_
            have hF31 : sg_F [45, 46, 47, 48, 49, 50, 51, 52, 53, 54, 55, 56, 57, 58, 59, 60] σ (sg_w σ7 45 8 (((sg_g σ7 45 8) + 1))) := (sg_F_w hF8 rfl _)
            generalize (sg_w σ7 45 8 (((sg_g σ7 45 8) + 1))) = σ32 at hF31 ⊢
            have k33 : wx z 8 126 132 [(4, .inl (q30)), (3, .inl (q26)), (0, .inr (.inr (.ref 45))), (1, .inl (a1)), (2, .inl (v6))] [] σ32 (fun v σ' => (∃ q, v = some (.inl q)) ∧ sg_F [45, 46, 47, 48, 49, 50, 51, 52, 53, 54, 55, 56, 57, 58, 59, 60] σ σ') := by
              refine wk_b tt_126 2 (pc' := 134) (ls' := [(4, .inl (q30)), (3, .inl (q26)), (0, .inr (.inr (.ref 45))), (1, .inl (a1)), (2, .inl (v6))]) (st' := [.inl (q26), .inr (.inr (.ref 45))]) (σ' := σ32) rfl ?_
              refine wk_call tt_126 rfl rfl rfl rfl rfl tt_132 rfl (by decide) (bt_21 z σ32 (q26)) (fun w34 σ35 hq36 => ?_)
              obtain ⟨rfl, hF37⟩ := hq36
              have hF38 := sg_F_t hF31 (sg_F_m (L := [45, 46, 47, 48, 49, 50, 51, 52, 53, 54, 55, 56, 57, 58, 59, 60]) hF37 rfl)
              refine wk_b tt_126 3 (pc' := 6) (ls' := [(2, .inl ((v6 + 1))), (4, .inl (q30)), (3, .inl (q26)), (0, .inr (.inr (.ref 45))), (1, .inl (a1))]) (st' := []) (σ' := σ35) rfl ?_
              refine wk_ls [(0, .inr (.inr (.ref 45))), (1, .inl (a1)), (2, .inl ((v6 + 1)))] rfl ⟨rfl, rfl, rfl, trivial⟩ (ih15 _ ?_ σ35 ((v6 + 1)) hF38 ?_ rfl)
              · omega
              · omega
            have k39 : wx z 8 126 140 [(4, .inl (q30)), (3, .inl (q26)), (0, .inr (.inr (.ref 45))), (1, .inl (a1)), (2, .inl (v6))] [] σ32 (fun v σ' => (∃ q, v = some (.inl q)) ∧ sg_F [45, 46, 47, 48, 49, 50, 51, 52, 53, 54, 55, 56, 57, 58, 59, 60] σ σ') := by
              refine wk_b tt_126 2 (pc' := 142) (ls' := [(4, .inl (q30)), (3, .inl (q26)), (0, .inr (.inr (.ref 45))), (1, .inl (a1)), (2, .inl (v6))]) (st' := [.inl (q26), .inr (.inr (.ref 45))]) (σ' := σ32) rfl ?_
              refine wk_call tt_126 rfl rfl rfl rfl rfl tt_120 rfl (by decide) (bt_30 z σ32 (q26)) (fun w40 σ41 hq42 => ?_)
              obtain ⟨rfl, hF43⟩ := hq42
              have hF44 := sg_F_t hF31 (sg_F_m (L := [45, 46, 47, 48, 49, 50, 51, 52, 53, 54, 55, 56, 57, 58, 59, 60]) hF43 rfl)
              refine wk_b tt_126 3 (pc' := 6) (ls' := [(2, .inl ((v6 + 1))), (4, .inl (q30)), (3, .inl (q26)), (0, .inr (.inr (.ref 45))), (1, .inl (a1))]) (st' := []) (σ' := σ41) rfl ?_
              refine wk_ls [(0, .inr (.inr (.ref 45))), (1, .inl (a1)), (2, .inl ((v6 + 1)))] rfl ⟨rfl, rfl, rfl, trivial⟩ (ih15 _ ?_ σ41 ((v6 + 1)) hF44 ?_ rfl)
              · omega
              · omega
            have k45 : wx z 8 126 148 [(4, .inl (q30)), (3, .inl (q26)), (0, .inr (.inr (.ref 45))), (1, .inl (a1)), (2, .inl (v6))] [] σ32 (fun v σ' => (∃ q, v = some (.inl q)) ∧ sg_F [45, 46, 47, 48, 49, 50, 51, 52, 53, 54, 55, 56, 57, 58, 59, 60] σ σ') := by
              refine wk_b tt_126 2 (pc' := 150) (ls' := [(4, .inl (q30)), (3, .inl (q26)), (0, .inr (.inr (.ref 45))), (1, .inl (a1)), (2, .inl (v6))]) (st' := [.inl (q26), .inr (.inr (.ref 45))]) (σ' := σ32) rfl ?_
              refine wk_call tt_126 rfl rfl rfl rfl rfl tt_121 rfl (by decide) (bt_41 z σ32 (q26)) (fun w46 σ47 hq48 => ?_)
              obtain ⟨rfl, hF49⟩ := hq48
              have hF50 := sg_F_t hF31 (sg_F_m (L := [45, 46, 47, 48, 49, 50, 51, 52, 53, 54, 55, 56, 57, 58, 59, 60]) hF49 rfl)
              refine wk_b tt_126 3 (pc' := 6) (ls' := [(2, .inl ((v6 + 1))), (4, .inl (q30)), (3, .inl (q26)), (0, .inr (.inr (.ref 45))), (1, .inl (a1))]) (st' := []) (σ' := σ47) rfl ?_
              refine wk_ls [(0, .inr (.inr (.ref 45))), (1, .inl (a1)), (2, .inl ((v6 + 1)))] rfl ⟨rfl, rfl, rfl, trivial⟩ (ih15 _ ?_ σ47 ((v6 + 1)) hF50 ?_ rfl)
              · omega
              · omega
            have k51 : wx z 8 126 156 [(4, .inl (q30)), (3, .inl (q26)), (0, .inr (.inr (.ref 45))), (1, .inl (a1)), (2, .inl (v6))] [] σ32 (fun v σ' => (∃ q, v = some (.inl q)) ∧ sg_F [45, 46, 47, 48, 49, 50, 51, 52, 53, 54, 55, 56, 57, 58, 59, 60] σ σ') := by
              refine wk_b tt_126 2 (pc' := 158) (ls' := [(4, .inl (q30)), (3, .inl (q26)), (0, .inr (.inr (.ref 45))), (1, .inl (a1)), (2, .inl (v6))]) (st' := [.inl (q26), .inr (.inr (.ref 45))]) (σ' := σ32) rfl ?_
              refine wk_call tt_126 rfl rfl rfl rfl rfl tt_122 rfl (by decide) (bt_53 z σ32 (q26)) (fun w52 σ53 hq54 => ?_)
              obtain ⟨rfl, hF55⟩ := hq54
              have hF56 := sg_F_t hF31 (sg_F_m (L := [45, 46, 47, 48, 49, 50, 51, 52, 53, 54, 55, 56, 57, 58, 59, 60]) hF55 rfl)
              refine wk_b tt_126 3 (pc' := 6) (ls' := [(2, .inl ((v6 + 1))), (4, .inl (q30)), (3, .inl (q26)), (0, .inr (.inr (.ref 45))), (1, .inl (a1))]) (st' := []) (σ' := σ53) rfl ?_
              refine wk_ls [(0, .inr (.inr (.ref 45))), (1, .inl (a1)), (2, .inl ((v6 + 1)))] rfl ⟨rfl, rfl, rfl, trivial⟩ (ih15 _ ?_ σ53 ((v6 + 1)) hF56 ?_ rfl)
              · omega
              · omega
            have k57 : wx z 8 126 164 [(4, .inl (q30)), (3, .inl (q26)), (0, .inr (.inr (.ref 45))), (1, .inl (a1)), (2, .inl (v6))] [] σ32 (fun v σ' => (∃ q, v = some (.inl q)) ∧ sg_F [45, 46, 47, 48, 49, 50, 51, 52, 53, 54, 55, 56, 57, 58, 59, 60] σ σ') := by
              refine wk_b tt_126 6 (pc' := 176) (ls' := [(4, .inl (q30)), (3, .inl (q26)), (0, .inr (.inr (.ref 45))), (1, .inl (a1)), (2, .inl (v6))]) (st' := [.inl (q26), .inr (.inr (.ref 16)), .inr (.inr (.ref 46))]) (σ' := σ32) rfl ?_
              refine wk_callp tt_126 rfl rfl rfl rfl rfl tt_5 rfl (by decide) (at_i z σ32 16 200 (q26) rfl (by decide)) ?_
              generalize sx_at σ32 16 200 (sg_n (q26)) = q61
              refine wk_b tt_126 1 (pc' := 180) (ls' := [(4, .inl (q30)), (3, .inl (q26)), (0, .inr (.inr (.ref 45))), (1, .inl (a1)), (2, .inl (v6))]) (st' := [.inr (.inr (.ref 45)), .inl (q61), .inr (.inr (.ref 46))]) (σ' := σ32) rfl ?_
              refine wk_call tt_126 rfl rfl rfl rfl rfl tt_124 rfl (by decide) (bt_3 z σ32) (fun w62 σ63 hq64 => ?_)
              obtain ⟨⟨q66, rfl⟩, hF65⟩ := hq64
              have hF67 := sg_F_t hF31 (sg_F_m (L := [45, 46, 47, 48, 49, 50, 51, 52, 53, 54, 55, 56, 57, 58, 59, 60]) hF65 rfl)
              refine wk_callp tt_126 rfl rfl rfl rfl rfl tt_21 rfl (by decide) (pt_i z σ63 46 272 (q61) (q66) rfl (by decide)) ?_
              have hF71 : sg_F [45, 46, 47, 48, 49, 50, 51, 52, 53, 54, 55, 56, 57, 58, 59, 60] σ (sx_put σ63 46 272 (sg_n (q61)) (q66)) := sg_F_p hF67 rfl _ _ _
              generalize (sx_put σ63 46 272 (sg_n (q61)) (q66)) = σ72 at hF71 ⊢
              refine wk_b tt_126 3 (pc' := 6) (ls' := [(2, .inl ((v6 + 1))), (4, .inl (q30)), (3, .inl (q26)), (0, .inr (.inr (.ref 45))), (1, .inl (a1))]) (st' := []) (σ' := σ72) rfl ?_
              refine wk_ls [(0, .inr (.inr (.ref 45))), (1, .inl (a1)), (2, .inl ((v6 + 1)))] rfl ⟨rfl, rfl, rfl, trivial⟩ (ih15 _ ?_ σ72 ((v6 + 1)) hF71 ?_ rfl)
              · omega
              · omega
            have k73 : wx z 8 126 189 [(4, .inl (q30)), (3, .inl (q26)), (0, .inr (.inr (.ref 45))), (1, .inl (a1)), (2, .inl (v6))] [] σ32 (fun v σ' => (∃ q, v = some (.inl q)) ∧ sg_F [45, 46, 47, 48, 49, 50, 51, 52, 53, 54, 55, 56, 57, 58, 59, 60] σ σ') := by
              refine wk_b tt_126 5 (pc' := 198) (ls' := [(4, .inl (q30)), (3, .inl (q26)), (0, .inr (.inr (.ref 45))), (1, .inl (a1)), (2, .inl (v6))]) (st' := [.inl (q26), .inr (.inr (.ref 16)), .inr (.inr (.ref 45))]) (σ' := σ32) rfl ?_
              refine wk_callp tt_126 rfl rfl rfl rfl rfl tt_5 rfl (by decide) (at_i z σ32 16 200 (q26) rfl (by decide)) ?_
              generalize sx_at σ32 16 200 (sg_n (q26)) = q77
              refine wk_call tt_126 rfl rfl rfl rfl rfl tt_119 rfl (by decide) (bt_54 z σ32 (q77)) (fun w78 σ79 hq80 => ?_)
              obtain ⟨rfl, hF81⟩ := hq80
              have hF82 := sg_F_t hF31 (sg_F_m (L := [45, 46, 47, 48, 49, 50, 51, 52, 53, 54, 55, 56, 57, 58, 59, 60]) hF81 rfl)
              refine wk_b tt_126 3 (pc' := 6) (ls' := [(2, .inl ((v6 + 1))), (4, .inl (q30)), (3, .inl (q26)), (0, .inr (.inr (.ref 45))), (1, .inl (a1))]) (st' := []) (σ' := σ79) rfl ?_
              refine wk_ls [(0, .inr (.inr (.ref 45))), (1, .inl (a1)), (2, .inl ((v6 + 1)))] rfl ⟨rfl, rfl, rfl, trivial⟩ (ih15 _ ?_ σ79 ((v6 + 1)) hF82 ?_ rfl)
              · omega
              · omega
            have k83 : wx z 8 126 207 [(4, .inl (q30)), (3, .inl (q26)), (0, .inr (.inr (.ref 45))), (1, .inl (a1)), (2, .inl (v6))] [] σ32 (fun v σ' => (∃ q, v = some (.inl q)) ∧ sg_F [45, 46, 47, 48, 49, 50, 51, 52, 53, 54, 55, 56, 57, 58, 59, 60] σ σ') := by
              refine wk_b tt_126 4 (pc' := 213) (ls' := [(4, .inl (q30)), (3, .inl (q26)), (0, .inr (.inr (.ref 45))), (1, .inl (a1)), (2, .inl (v6))]) (st' := [.inl (q26), .inr (.inr (.ref 47)), .inr (.inr (.ref 45))]) (σ' := σ32) rfl ?_
              refine wk_callp tt_126 rfl rfl rfl rfl rfl tt_5 rfl (by decide) (at_i z σ32 47 13 (q26) rfl (by decide)) ?_
              generalize sx_at σ32 47 13 (sg_n (q26)) = q87
              refine wk_b tt_126 4 (pc' := 6) (ls' := [(2, .inl ((v6 + 1))), (4, .inl (q30)), (3, .inl (q26)), (0, .inr (.inr (.ref 45))), (1, .inl (a1))]) (st' := []) (σ' := (sg_w σ32 45 8 (q87))) rfl ?_
              have hF88 : sg_F [45, 46, 47, 48, 49, 50, 51, 52, 53, 54, 55, 56, 57, 58, 59, 60] σ (sg_w σ32 45 8 (q87)) := (sg_F_w hF31 rfl _)
              generalize (sg_w σ32 45 8 (q87)) = σ89 at hF88 ⊢
              refine wk_ls [(0, .inr (.inr (.ref 45))), (1, .inl (a1)), (2, .inl ((v6 + 1)))] rfl ⟨rfl, rfl, rfl, trivial⟩ (ih15 _ ?_ σ89 ((v6 + 1)) hF88 ?_ rfl)
              · omega
              · omega
            have k90 : wx z 8 126 222 [(4, .inl (q30)), (3, .inl (q26)), (0, .inr (.inr (.ref 45))), (1, .inl (a1)), (2, .inl (v6))] [] σ32 (fun v σ' => (∃ q, v = some (.inl q)) ∧ sg_F [45, 46, 47, 48, 49, 50, 51, 52, 53, 54, 55, 56, 57, 58, 59, 60] σ σ') := by
              refine wk_b tt_126 2 (pc' := 224) (ls' := [(4, .inl (q30)), (3, .inl (q26)), (0, .inr (.inr (.ref 45))), (1, .inl (a1)), (2, .inl (v6))]) (st' := [.inl (q26), .inr (.inr (.ref 45))]) (σ' := σ32) rfl ?_
              refine wk_call tt_126 rfl rfl rfl rfl rfl tt_142 rfl (by decide) (bt_55 z σ32 (q26)) (fun w91 σ92 hq93 => ?_)
              obtain ⟨rfl, hF94⟩ := hq93
              have hF95 := sg_F_t hF31 (sg_F_m (L := [45, 46, 47, 48, 49, 50, 51, 52, 53, 54, 55, 56, 57, 58, 59, 60]) hF94 rfl)
              refine wk_b tt_126 3 (pc' := 6) (ls' := [(2, .inl ((v6 + 1))), (4, .inl (q30)), (3, .inl (q26)), (0, .inr (.inr (.ref 45))), (1, .inl (a1))]) (st' := []) (σ' := σ92) rfl ?_
              refine wk_ls [(0, .inr (.inr (.ref 45))), (1, .inl (a1)), (2, .inl ((v6 + 1)))] rfl ⟨rfl, rfl, rfl, trivial⟩ (ih15 _ ?_ σ92 ((v6 + 1)) hF95 ?_ rfl)
              · omega
              · omega
            have k96 : wx z 8 126 230 [(4, .inl (q30)), (3, .inl (q26)), (0, .inr (.inr (.ref 45))), (1, .inl (a1)), (2, .inl (v6))] [] σ32 (fun v σ' => (∃ q, v = some (.inl q)) ∧ sg_F [45, 46, 47, 48, 49, 50, 51, 52, 53, 54, 55, 56, 57, 58, 59, 60] σ σ') := by
              refine wk_b tt_126 2 (pc' := 232) (ls' := [(4, .inl (q30)), (3, .inl (q26)), (0, .inr (.inr (.ref 45))), (1, .inl (a1)), (2, .inl (v6))]) (st' := [.inl (q26), .inr (.inr (.ref 45))]) (σ' := σ32) rfl ?_
              refine wk_call tt_126 rfl rfl rfl rfl rfl tt_164 rfl (by decide) (bt_56 z σ32 (q26)) (fun w97 σ98 hq99 => ?_)
              obtain ⟨rfl, hF100⟩ := hq99
              have hF101 := sg_F_t hF31 (sg_F_m (L := [45, 46, 47, 48, 49, 50, 51, 52, 53, 54, 55, 56, 57, 58, 59, 60]) hF100 rfl)
              refine wk_b tt_126 3 (pc' := 6) (ls' := [(2, .inl ((v6 + 1))), (4, .inl (q30)), (3, .inl (q26)), (0, .inr (.inr (.ref 45))), (1, .inl (a1))]) (st' := []) (σ' := σ98) rfl ?_
              refine wk_ls [(0, .inr (.inr (.ref 45))), (1, .inl (a1)), (2, .inl ((v6 + 1)))] rfl ⟨rfl, rfl, rfl, trivial⟩ (ih15 _ ?_ σ98 ((v6 + 1)) hF101 ?_ rfl)
              · omega
              · omega
            have k102 : wx z 8 126 238 [(4, .inl (q30)), (3, .inl (q26)), (0, .inr (.inr (.ref 45))), (1, .inl (a1)), (2, .inl (v6))] [] σ32 (fun v σ' => (∃ q, v = some (.inl q)) ∧ sg_F [45, 46, 47, 48, 49, 50, 51, 52, 53, 54, 55, 56, 57, 58, 59, 60] σ σ') := by
              refine wk_b tt_126 2 (pc' := 240) (ls' := [(4, .inl (q30)), (3, .inl (q26)), (0, .inr (.inr (.ref 45))), (1, .inl (a1)), (2, .inl (v6))]) (st' := [.inl (q26), .inr (.inr (.ref 45))]) (σ' := σ32) rfl ?_
              refine wk_call tt_126 rfl rfl rfl rfl rfl tt_146 rfl (by decide) (bt_57 z σ32 (q26)) (fun w103 σ104 hq105 => ?_)
              obtain ⟨rfl, hF106⟩ := hq105
              have hF107 := sg_F_t hF31 (sg_F_m (L := [45, 46, 47, 48, 49, 50, 51, 52, 53, 54, 55, 56, 57, 58, 59, 60]) hF106 rfl)
              refine wk_b tt_126 3 (pc' := 6) (ls' := [(2, .inl ((v6 + 1))), (4, .inl (q30)), (3, .inl (q26)), (0, .inr (.inr (.ref 45))), (1, .inl (a1))]) (st' := []) (σ' := σ104) rfl ?_
              refine wk_ls [(0, .inr (.inr (.ref 45))), (1, .inl (a1)), (2, .inl ((v6 + 1)))] rfl ⟨rfl, rfl, rfl, trivial⟩ (ih15 _ ?_ σ104 ((v6 + 1)) hF107 ?_ rfl)
              · omega
              · omega
            have k108 : wx z 8 126 246 [(4, .inl (q30)), (3, .inl (q26)), (0, .inr (.inr (.ref 45))), (1, .inl (a1)), (2, .inl (v6))] [] σ32 (fun v σ' => (∃ q, v = some (.inl q)) ∧ sg_F [45, 46, 47, 48, 49, 50, 51, 52, 53, 54, 55, 56, 57, 58, 59, 60] σ σ') := by
              refine wk_b tt_126 2 (pc' := 248) (ls' := [(4, .inl (q30)), (3, .inl (q26)), (0, .inr (.inr (.ref 45))), (1, .inl (a1)), (2, .inl (v6))]) (st' := [.inl (q26), .inr (.inr (.ref 45))]) (σ' := σ32) rfl ?_
              refine wk_call tt_126 rfl rfl rfl rfl rfl tt_152 rfl (by decide) (bt_59 z σ32 (q26)) (fun w109 σ110 hq111 => ?_)
              obtain ⟨rfl, hF112⟩ := hq111
              have hF113 := sg_F_t hF31 (sg_F_m (L := [45, 46, 47, 48, 49, 50, 51, 52, 53, 54, 55, 56, 57, 58, 59, 60]) hF112 rfl)
              refine wk_b tt_126 3 (pc' := 6) (ls' := [(2, .inl ((v6 + 1))), (4, .inl (q30)), (3, .inl (q26)), (0, .inr (.inr (.ref 45))), (1, .inl (a1))]) (st' := []) (σ' := σ110) rfl ?_
              refine wk_ls [(0, .inr (.inr (.ref 45))), (1, .inl (a1)), (2, .inl ((v6 + 1)))] rfl ⟨rfl, rfl, rfl, trivial⟩ (ih15 _ ?_ σ110 ((v6 + 1)) hF113 ?_ rfl)
              · omega
              · omega
            have k114 : wx z 8 126 254 [(4, .inl (q30)), (3, .inl (q26)), (0, .inr (.inr (.ref 45))), (1, .inl (a1)), (2, .inl (v6))] [] σ32 (fun v σ' => (∃ q, v = some (.inl q)) ∧ sg_F [45, 46, 47, 48, 49, 50, 51, 52, 53, 54, 55, 56, 57, 58, 59, 60] σ σ') := by
              refine wk_b tt_126 2 (pc' := 256) (ls' := [(4, .inl (q30)), (3, .inl (q26)), (0, .inr (.inr (.ref 45))), (1, .inl (a1)), (2, .inl (v6))]) (st' := [.inl (q26), .inr (.inr (.ref 45))]) (σ' := σ32) rfl ?_
              refine wk_call tt_126 rfl rfl rfl rfl rfl tt_161 rfl (by decide) (bt_61 z σ32 (q26)) (fun w115 σ116 hq117 => ?_)
              obtain ⟨rfl, hF118⟩ := hq117
              have hF119 := sg_F_t hF31 (sg_F_m (L := [45, 46, 47, 48, 49, 50, 51, 52, 53, 54, 55, 56, 57, 58, 59, 60]) hF118 rfl)
              refine wk_b tt_126 3 (pc' := 6) (ls' := [(2, .inl ((v6 + 1))), (4, .inl (q30)), (3, .inl (q26)), (0, .inr (.inr (.ref 45))), (1, .inl (a1))]) (st' := []) (σ' := σ116) rfl ?_
              refine wk_ls [(0, .inr (.inr (.ref 45))), (1, .inl (a1)), (2, .inl ((v6 + 1)))] rfl ⟨rfl, rfl, rfl, trivial⟩ (ih15 _ ?_ σ116 ((v6 + 1)) hF119 ?_ rfl)
              · omega
              · omega
            have k120 : wx z 8 126 262 [(4, .inl (q30)), (3, .inl (q26)), (0, .inr (.inr (.ref 45))), (1, .inl (a1)), (2, .inl (v6))] [] σ32 (fun v σ' => (∃ q, v = some (.inl q)) ∧ sg_F [45, 46, 47, 48, 49, 50, 51, 52, 53, 54, 55, 56, 57, 58, 59, 60] σ σ') := by
              refine wk_b tt_126 2 (pc' := 264) (ls' := [(4, .inl (q30)), (3, .inl (q26)), (0, .inr (.inr (.ref 45))), (1, .inl (a1)), (2, .inl (v6))]) (st' := [.inl (q26), .inr (.inr (.ref 45))]) (σ' := σ32) rfl ?_
              refine wk_call tt_126 rfl rfl rfl rfl rfl tt_151 rfl (by decide) (bt_60 z σ32 (q26)) (fun w121 σ122 hq123 => ?_)
              obtain ⟨rfl, hF124⟩ := hq123
              have hF125 := sg_F_t hF31 (sg_F_m (L := [45, 46, 47, 48, 49, 50, 51, 52, 53, 54, 55, 56, 57, 58, 59, 60]) hF124 rfl)
              refine wk_b tt_126 2 (pc' := 6) (ls' := [(2, .inl ((v6 + 1))), (4, .inl (q30)), (3, .inl (q26)), (0, .inr (.inr (.ref 45))), (1, .inl (a1))]) (st' := []) (σ' := σ122) rfl ?_
              refine wk_ls [(0, .inr (.inr (.ref 45))), (1, .inl (a1)), (2, .inl ((v6 + 1)))] rfl ⟨rfl, rfl, rfl, trivial⟩ (ih15 _ ?_ σ122 ((v6 + 1)) hF125 ?_ rfl)
              · omega
              · omega
            refine wk_n ?_
            have hx127 := sg_Rn (q30)
            generalize sg_n (q30) = x126 at hx127 ⊢
            by_cases e128 : x126 = 0
            · exact wk_ts tt_126 (off := 63) (tgt := 132) rfl hx127 (by rw [e128]; decide) rfl k33
            by_cases e129 : x126 = 1
            · exact wk_ts tt_126 (off := 71) (tgt := 140) rfl hx127 (by rw [e129]; decide) rfl k39
            by_cases e130 : x126 = 2
            · exact wk_ts tt_126 (off := 79) (tgt := 148) rfl hx127 (by rw [e130]; decide) rfl k45
            by_cases e131 : x126 = 3
            · exact wk_ts tt_126 (off := 87) (tgt := 156) rfl hx127 (by rw [e131]; decide) rfl k51
            by_cases e132 : x126 = 4
            · exact wk_ts tt_126 (off := 95) (tgt := 164) rfl hx127 (by rw [e132]; decide) rfl k57
            by_cases e133 : x126 = 5
            · exact wk_ts tt_126 (off := 120) (tgt := 189) rfl hx127 (by rw [e133]; decide) rfl k73
            by_cases e134 : x126 = 6
            · exact wk_ts tt_126 (off := 138) (tgt := 207) rfl hx127 (by rw [e134]; decide) rfl k83
            by_cases e135 : x126 = 7
            · exact wk_ts tt_126 (off := 153) (tgt := 222) rfl hx127 (by rw [e135]; decide) rfl k90
            by_cases e136 : x126 = 8
            · exact wk_ts tt_126 (off := 161) (tgt := 230) rfl hx127 (by rw [e136]; decide) rfl k96
            by_cases e137 : x126 = 9
            · exact wk_ts tt_126 (off := 169) (tgt := 238) rfl hx127 (by rw [e137]; decide) rfl k102
            by_cases e138 : x126 = 10
            · exact wk_ts tt_126 (off := 177) (tgt := 246) rfl hx127 (by rw [e138]; decide) rfl k108
            by_cases e139 : x126 = 11
            · exact wk_ts tt_126 (off := 185) (tgt := 254) rfl hx127 (by rw [e139]; decide) rfl k114
            exact wk_ts tt_126 (off := 193) (tgt := 262) rfl hx127 (by unfold bm_swt; rw [if_pos (by omega)]) rfl k120
  refine wk_ls [(0, .inr (.inr (.ref 45))), (1, .inl (a1)), (2, .inl (0))] rfl ⟨rfl, rfl, rfl, trivial⟩ ?_
  exact lp17 _ σ2 (0) hF5 (by omega) rfl
-- NestedVectors$Machine.forget x.nestedRun
set_option maxRecDepth 8000 in
theorem bt_63 (z : Value) (σ : sg_S) : wx z 0 123 0 [(0, .inr (.inr (.ref 45)))] [] σ (fun v σ' => v = none ∧ sg_F [45] σ σ') := by
  have hF0 := sg_F_r [45] σ
  refine wk_b tt_123 3 (pc' := 5) (ls' := [(0, .inr (.inr (.ref 45)))]) (st' := []) (σ' := (sg_w σ 45 11 (0))) rfl ?_
  have hF1 : sg_F [45] σ (sg_w σ 45 11 (0)) := (sg_F_w hF0 rfl _)
  generalize (sg_w σ 45 11 (0)) = σ2 at hF1 ⊢
  exact wk_rV tt_123 rfl rfl ⟨rfl, hF1⟩
/-! TOKENS: what stands in the bytes. -/
def tb (σ : sg_S) (p : Int) : Int := (sg_i (sg_g σ 1 p) &&& sg_i 255).toInt
def lx_d (c : Int) : Bool := decide (48 ≤ c ∧ c ≤ 57)
def lx_l (c : Int) : Bool := decide (97 ≤ c ∧ c ≤ 122)
def lx_b (c : Int) : Bool := decide (c = 32 ∨ c = 10)
def lx_a (c : Int) : Bool := decide (48 ≤ c ∧ c ≤ 57 ∨ 97 ≤ c ∧ c ≤ 122)
def lx_sc (B : Int → Int) (N : Int) (p : Int → Bool) : Nat → Int → Int
  | 0, q => q
  | f + 1, q => if q < N ∧ p (B q) = true then lx_sc B N p f (q + 1) else q
def lx_end (B : Int → Int) (N : Int) (p : Int → Bool) (q : Int) : Int := lx_sc B N p (N - q).toNat q
theorem lx_sc_eq {B : Int → Int} {N : Int} {p : Int → Bool} {r : Int} : ∀ (f : Nat) (q : Int), q ≤ r → (∀ t, q ≤ t → t < r → t < N ∧ p (B t) = true) → (N ≤ r ∨ p (B r) = false) → (r - q).toNat ≤ f → lx_sc B N p f q = r
  | 0, q, h1, _, _, h4 => by simp only [lx_sc]; omega
  | f + 1, q, h1, h2, h3, h4 => by
    simp only [lx_sc]
    by_cases e : q = r
    · subst e
      rw [if_neg]
      rintro ⟨a, b⟩
      rcases h3 with h3 | h3
      · omega
      · rw [h3] at b; cases b
    · rw [if_pos (h2 q (by omega) (by omega))]
      exact lx_sc_eq f (q + 1) (by omega) (fun t a b => h2 t (by omega) b) h3 (by omega)
theorem lx_end_eq {B : Int → Int} {N : Int} {p : Int → Bool} {q r : Int} (h1 : q ≤ r) (h2 : ∀ t, q ≤ t → t < r → t < N ∧ p (B t) = true) (h3 : N ≤ r ∨ p (B r) = false) : lx_end B N p q = r := by
  refine lx_sc_eq _ q h1 h2 h3 ?_
  by_cases e : q = r
  · omega
  · have := (h2 (r - 1) (by omega) (by omega)).1
    omega
theorem lx_end_spec (B : Int → Int) (N : Int) (p : Int → Bool) (q : Int) : q ≤ lx_end B N p q ∧ (∀ t, q ≤ t → t < lx_end B N p q → t < N ∧ p (B t) = true) ∧ (N ≤ lx_end B N p q ∨ p (B (lx_end B N p q)) = false) := by
  unfold lx_end
  generalize hf : (N - q).toNat = f
  induction f generalizing q with
  | zero =>
    simp only [lx_sc]
    exact ⟨Int.le_refl q, fun t a b => by omega, Or.inl (by omega)⟩
  | succ f ih =>
    simp only [lx_sc]
    by_cases e : q < N ∧ p (B q) = true
    · rw [if_pos e]
      obtain ⟨h1, h2, h3⟩ := ih (q + 1) (by omega)
      refine ⟨by omega, fun t a b => ?_, h3⟩
      by_cases e2 : t = q
      · subst e2; exact e
      · exact h2 t (by omega) b
    · rw [if_neg e]
      refine ⟨Int.le_refl q, fun t a b => by omega, ?_⟩
      by_cases e2 : q < N
      · right
        cases e3 : p (B q) with
        | false => rfl
        | true => exact absurd ⟨e2, e3⟩ e
      · left; omega
theorem lx_end_le {B : Int → Int} {N : Int} {p : Int → Bool} {q : Int} (h : q ≤ N) : lx_end B N p q ≤ N := by
  obtain ⟨h1, h2, -⟩ := lx_end_spec B N p q
  by_cases e : q = lx_end B N p q
  · omega
  · have := (h2 (lx_end B N p q - 1) (by omega) (by omega)).1
    omega
/-- the letters of a word as one number -/
def lx_pk (B : Int → Int) (q : Int) : Nat → Int
  | 0 => 0
  | n + 1 => 256 * lx_pk B q n + B (q + n)
theorem lx_pk_b {B : Int → Int} (hB : ∀ p, 0 ≤ B p ∧ B p ≤ 255) (q : Int) : ∀ n : Nat, 0 ≤ lx_pk B q n ∧ lx_pk B q n < 256 ^ n
  | 0 => by simp [lx_pk]
  | n + 1 => by
    obtain ⟨h1, h2⟩ := lx_pk_b hB q n
    have := hB (q + n)
    simp only [lx_pk]
    rw [Int.pow_succ]
    omega
def lx_fi (f : Int → Int) (w : Int) : Nat → Int → Int
  | 0, _ => 258
  | n + 1, i => if f i = w then 261 + i else lx_fi f w n (i + 1)
theorem tb_r (σ : sg_S) (p : Int) : 0 ≤ tb σ p ∧ tb σ p ≤ 255 := by
  unfold tb
  generalize sg_i (sg_g σ 1 p) = x
  have h : (x &&& sg_i 255).toInt = (x.toInt % 256) := by
    have e : sg_i 255 = 255 := rfl
    rw [e]
    have h1 : (x &&& 255).toBitVec = x.toBitVec &&& 255#32 := rfl
    have h2 : (x.toBitVec &&& 255#32).toNat = x.toBitVec.toNat % 256 := by
      rw [BitVec.toNat_and]
      exact Nat.and_two_pow_sub_one_eq_mod _ 8
    have h3 : (x &&& 255).toInt = ((x.toBitVec &&& 255#32).toNat : Int) := by
      rw [← Int32.toInt_toBitVec, h1]
      refine BitVec.toInt_eq_toNat_of_lt ?_
      rw [h2]
      omega
    rw [h3, h2, ← Int32.toInt_toBitVec, BitVec.toInt_eq_toNat_cond]
    split <;> omega
  rw [h]
  omega
theorem lx_or8 {w c : Int} (hw : 0 ≤ w) (hw2 : w < 36028797018963968) (hc : 0 ≤ c) (hc2 : c ≤ 255) : (sg_l ((sg_l w <<< ((sg_i 8).toInt64 &&& 63)).toInt) ||| sg_l c).toInt = 256 * w + c := by
  obtain ⟨n, rfl⟩ := Int.eq_ofNat_of_zero_le hw
  obtain ⟨m, rfl⟩ := Int.eq_ofNat_of_zero_le hc
  have hn : n < 36028797018963968 := by omega
  have hm : m ≤ 255 := by omega
  have e8 : (sg_i 8).toInt64 &&& 63 = 8 := by decide
  rw [e8, bm_tl]
  have hb1 : (sg_l (n : Int)).toBitVec = BitVec.ofNat 64 n := by
    unfold sg_l
    rw [Int64.toBitVec_ofInt]
    exact BitVec.ofInt_natCast ..
  have hb2 : (sg_l (m : Int)).toBitVec = BitVec.ofNat 64 m := by
    unfold sg_l
    rw [Int64.toBitVec_ofInt]
    exact BitVec.ofInt_natCast ..
  have hs : (sg_l (n : Int) <<< (8 : Int64)).toBitVec = BitVec.ofNat 64 n <<< 8 := by
    rw [Int64.toBitVec_shiftLeft, hb1]
    rfl
  rw [← Int64.toInt_toBitVec, Int64.toBitVec_or, hs, hb2]
  have ht : (BitVec.ofNat 64 n <<< 8 ||| BitVec.ofNat 64 m).toNat = 256 * n + m := by
    rw [BitVec.toNat_or, BitVec.toNat_shiftLeft, BitVec.toNat_ofNat, BitVec.toNat_ofNat, Nat.mod_eq_of_lt (show n < 2 ^ 64 by omega), Nat.mod_eq_of_lt (show m < 2 ^ 64 by omega)]
    rw [Nat.shiftLeft_eq, Nat.mod_eq_of_lt (show n * 2 ^ 8 < 2 ^ 64 by omega)]
    rw [Nat.mul_comm n, ← Nat.two_pow_add_eq_or_of_lt (show m < 2 ^ 8 by omega) n]
  rw [BitVec.toInt_eq_toNat_of_lt (by rw [ht]; omega), ht]
  omega
def tk_av (σ : sg_S) : Int := if sg_g σ 36 3 < sg_g σ 36 2 then tb σ (sg_g σ 36 3) else 0
theorem tk_av_in {S σ : sg_S} {p n : Int} (hp : sg_g S 36 3 = p) (hn : sg_g S 36 2 = n) (ht : ∀ q, sg_g S 1 q = sg_g σ 1 q) (h : p < n) : tk_av S = tb σ p := by
  unfold tk_av tb
  rw [hp, hn, if_pos h, ht]
theorem tk_avR (σ : sg_S) : 0 ≤ tk_av σ ∧ tk_av σ ≤ 255 := by
  unfold tk_av
  split
  · exact tb_r _ _
  · decide
theorem lx_pk_7 {B : Int → Int} {q : Int} : ∀ (n : Nat), (∀ t, q ≤ t → t < q + n → lx_a (B t) = true) → 0 ≤ lx_pk B q n ∧ 2 * lx_pk B q n < 256 ^ n
  | 0, _ => by simp [lx_pk]
  | n + 1, h => by
    obtain ⟨h1, h2⟩ := lx_pk_7 n (fun t a b => h t a (by omega))
    have h3 := h (q + n) (by omega) (by omega)
    unfold lx_a at h3
    have h4 := of_decide_eq_true h3
    simp only [lx_pk]
    rw [Int.pow_succ]
    omega
theorem lx_pk_step {B : Int → Int} {q e N0 : Int} (hq : q ≤ e) (h8 : e + 1 - q ≤ 8) (h : ∀ t, q ≤ t → t < e → t < N0 ∧ lx_a (B t) = true) (hb : 0 ≤ B e ∧ B e ≤ 255) : (sg_l ((sg_l (lx_pk B q (e - q).toNat) <<< ((sg_i 8).toInt64 &&& 63)).toInt) ||| sg_l (B e)).toInt = lx_pk B q (e + 1 - q).toNat := by
  have h1 := lx_pk_7 (B := B) (q := q) (e - q).toNat (fun t a b => (h t a (by omega)).2)
  have h2 : (256 : Int) ^ (e - q).toNat ≤ 72057594037927936 := by
    have h9 : (e - q).toNat ≤ 7 := by omega
    generalize (e - q).toNat = n at h9
    rcases (show n = 0 ∨ n = 1 ∨ n = 2 ∨ n = 3 ∨ n = 4 ∨ n = 5 ∨ n = 6 ∨ n = 7 by omega) with h | h | h | h | h | h | h | h <;> subst h <;> decide
  rw [lx_or8 h1.1 (by omega) hb.1 hb.2]
  rw [show (e + 1 - q).toNat = (e - q).toNat + 1 by omega]
  simp only [lx_pk]
  rw [show q + ((e - q).toNat : Int) = e by omega]
theorem bm_lc3 {x y : Int} (hx : sg_RL x) (hy : sg_RL y) : (bm_lc x y = 0 ↔ x = y) ∧ (bm_lc x y < 0 ↔ x < y) ∧ -1 ≤ bm_lc x y ∧ bm_lc x y ≤ 1 := by
  unfold bm_lc
  rw [sg_idl hx, sg_idl hy]
  by_cases h : y < x
  · rw [if_pos h]
    omega
  · rw [if_neg h]
    by_cases h2 : x = y
    · rw [if_pos h2]
      omega
    · rw [if_neg h2]
      omega
/-- the signs -/
def lx_s (c : Int) : Bool := decide (c = 40 ∨ c = 41 ∨ c = 123 ∨ c = 125 ∨ c = 91 ∨ c = 93 ∨ c = 44 ∨ c = 58 ∨ c = 59 ∨ c = 124 ∨ c = 61 ∨ c = 60 ∨ c = 43 ∨ c = 45 ∨ c = 42 ∨ c = 47 ∨ c = 37 ∨ c = 35)
theorem lx_i2b {x : Int} (h0 : 0 ≤ x) (h1 : x ≤ 255) : (x ≤ 127 ∧ ((sg_i x).toInt8.toInt32).toInt = x) ∨ (127 < x ∧ -128 ≤ ((sg_i x).toInt8.toInt32).toInt ∧ ((sg_i x).toInt8.toInt32).toInt < 0) := by
  have e : ((sg_i x).toInt8.toInt32).toInt = x.bmod 256 := by
    rw [Int8.toInt_toInt32]
    unfold sg_i
    rw [Int32.toInt8_ofInt, Int8.toInt_ofInt]
  rw [e]
  have : Int.bmod x 256 = if x % 256 < (256 + 1) / 2 then x % 256 else x % 256 - 256 := rfl
  rw [this]
  split <;> omega
theorem lx_i2c {x : Int} (h0 : 0 ≤ x) (h1 : x ≤ 255) : (((sg_i x).toUInt32 % 65536).toInt32).toInt = x := by
  obtain ⟨n, rfl⟩ := Int.eq_ofNat_of_zero_le h0
  have hn : n ≤ 255 := by omega
  have : ∀ m : Fin 256, (((sg_i (m.val : Int)).toUInt32 % 65536).toInt32).toInt = (m.val : Int) := by decide +kernel
  exact this ⟨n, by omega⟩
def lx_kind (B : Int → Int) (N : Int) (R : Int → Int) (q : Int) : Int :=
  if N ≤ q then 256
  else if lx_d (B q) = true then (if lx_end B N lx_d q - q > 9 then 259 else 257)
  else if lx_l (B q) = true then (if lx_end B N lx_a q - q > 8 then 259 else lx_fi R (lx_pk B q (lx_end B N lx_a q - q).toNat) 18 0)
  else if lx_s (B q) = true then B q else 259
def lx_next (B : Int → Int) (N : Int) (q : Int) : Int :=
  if N ≤ q then q
  else if lx_d (B q) = true then lx_end B N lx_d q
  else if lx_l (B q) = true then lx_end B N lx_a q
  else if lx_s (B q) = true then q + 1 else q
section LXR
variable {E : am_E} {T : List am_M} {Sh : List sg_Sh} {d j pc : Nat} {ls : bm_L} {st : List bm_V} {σ : sg_S} {Q : Option bm_V → sg_S → Prop} {M : am_M}
theorem wk_gi {num x : Int} {idx : Nat} {lk : am_K} (hM : T[j]? = some M) (hq : am_find M.2.2.2.2 pc = some (pc, .getstatic idx, num, lk)) (hv : E.2.2.1[num.toNat]? = some (.int (sg_i x))) (k : wk E T Sh d j (pc + 3) ls (.inl x :: st) σ Q) : wk E T Sh d j pc ls st σ Q := by
  obtain ⟨v, σ', h1, h2⟩ := k
  refine ⟨v, σ', am_r0 (S := (pc + 3, bm_ls ls, bm_st (.inl x :: st))) hM hq rfl ?_ h1, h2⟩
  simp only [am_step, am_gs, hv, bm_st, List.map_cons, bm_v]
end LXR
theorem wk_rB {E : am_E} {T : List am_M} {Sh : List sg_Sh} {d j pc : Nat} {ls : bm_L} {σ : sg_S} {Q : Option bm_V → sg_S → Prop} {M : am_M} {x num : Int} {lk : am_K} (hM : T[j]? = some M) (hq : am_find M.2.2.2.2 pc = some (pc, .ireturn, num, lk)) (hr : M.2.2.2.1 = some .byte) (hx : narrow .byte (.int (sg_i x)) = .int (sg_i x)) (k : Q (some (.inl x)) σ) : wk E T Sh d j pc ls [.inl x] σ Q :=
  ⟨some (.inl x), σ, am_r1 hM hq rfl (by simp only [bm_st, List.map_cons, List.map_nil, bm_v, am_ret, hr, if_pos hx, Option.map_some]), k⟩
theorem lx_fi_s (f : Int → Int) (w : Int) (n : Nat) (i : Int) : lx_fi f w (n + 1) i = if f i = w then 261 + i else lx_fi f w n (i + 1) := rfl
theorem tb_eq {S σ : sg_S} (h : ∀ q, sg_g S 1 q = sg_g σ 1 q) : tb S = tb σ := by
  funext p
  unfold tb
  rw [h]
