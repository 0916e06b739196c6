/-! Conditions of the reference's methods, by program (32). -/
-- NestedVectorsModel.goOn
def V_goOn_9 (σ : sg_S) (Q : sg_S → Prop) : Prop := V_readAtom σ  (fun σ2 => sg_F [93, 94, 95, 96, 98, 110, 111, 112, 8088, 9088, 30088, 31088, 32088, 35088, 37088] σ σ2 → Q σ2)
set_option maxHeartbeats 4000000 in
set_option maxRecDepth 8000 in
theorem w_goOn_9 (z : Value) (σ : sg_S) (Q : sg_S → Prop)  (w : V_goOn_9 σ  Q) : wx z 7 253 442 [(0, .inr (.inr (.ref 88)))] [] σ (fun v σ' => v = none ∧ sg_F [93, 94, 95, 96, 98, 110, 111, 112, 8088, 9088, 30088, 31088, 32088, 35088, 37088] σ σ' ∧ Q σ') := by
  unfold V_goOn_9 at w
  refine wk_b tt_253 1 (pc' := 443) (ls' := [(0, .inr (.inr (.ref 88)))]) (st' := [.inr (.inr (.ref 88))]) (σ' := σ) rfl ?_
  refine wk_call tt_253 rfl rfl rfl rfl rfl tt_311 rfl (by decide) (w_readAtom z σ  _  w) (fun u6 σ2 hq4 => ?_)
  obtain ⟨rfl, hF3, w⟩ := hq4
  have w := w hF3
  refine wk_b tt_253 1 (pc' := 632) (ls' := [(0, .inr (.inr (.ref 88)))]) (st' := []) (σ' := σ2) rfl ?_
  exact wk_rV tt_253 rfl rfl ⟨rfl, (sg_F_t (sg_F_r [93, 94, 95, 96, 98, 110, 111, 112, 8088, 9088, 30088, 31088, 32088, 35088, 37088] σ) (sg_F_m (L := [93, 94, 95, 96, 98, 110, 111, 112, 8088, 9088, 30088, 31088, 32088, 35088, 37088]) hF3 rfl)), w⟩
-- NestedVectorsModel.goOn
def V_goOn_10 (σ : sg_S) (b2 : Int) (Q : sg_S → Prop) : Prop := V_popped σ  (fun q1 σ2 => sg_R q1 → sg_F [35088] σ σ2 → V_kid σ2 (b2) (q1) (fun σ8 => sg_F [96, 97] σ2 σ8 → Q σ8))
set_option maxHeartbeats 4000000 in
set_option maxRecDepth 8000 in
theorem w_goOn_10 (z : Value) (σ : sg_S) (b2 : Int) (Q : sg_S → Prop) (rb2 : sg_R b2) (w : V_goOn_10 σ b2 Q) : wx z 1 253 449 [(0, .inr (.inr (.ref 88))), (2, .inl (b2))] [] σ (fun v σ' => v = none ∧ sg_F [96, 97, 35088] σ σ' ∧ Q σ') := by
  unfold V_goOn_10 at w
  refine wk_b tt_253 3 (pc' := 452) (ls' := [(0, .inr (.inr (.ref 88))), (2, .inl (b2))]) (st' := [.inr (.inr (.ref 88)), .inl (b2), .inr (.inr (.ref 88))]) (σ' := σ) rfl ?_
  refine wk_call tt_253 rfl rfl rfl rfl rfl tt_306 rfl (by decide) (w_popped z σ  _  w) (fun u6 σ2 hq4 => ?_)
  obtain ⟨q1, rfl, r5, hF3, w⟩ := hq4
  have w := w r5 hF3
  refine wk_call tt_253 rfl rfl rfl rfl rfl tt_272 rfl (by decide) (w_kid z σ2 (b2) (q1) _ rb2 r5 w) (fun u12 σ8 hq10 => ?_)
  obtain ⟨rfl, hF9, w⟩ := hq10
  have w := w hF9
  refine wk_b tt_253 1 (pc' := 632) (ls' := [(0, .inr (.inr (.ref 88))), (2, .inl (b2))]) (st' := []) (σ' := σ8) rfl ?_
  exact wk_rV tt_253 rfl rfl ⟨rfl, (sg_F_t (sg_F_t (sg_F_r [96, 97, 35088] σ) (sg_F_m (L := [96, 97, 35088]) hF3 rfl)) (sg_F_m (L := [96, 97, 35088]) hF9 rfl)), w⟩
-- NestedVectorsModel.goOn
def V_goOn_11 (σ : sg_S) (b2 : Int) (Q : sg_S → Prop) : Prop := V_pushed σ (b2) (fun σ2 => sg_F [112, 35088] σ σ2 → Q σ2)
set_option maxHeartbeats 4000000 in
set_option maxRecDepth 8000 in
theorem w_goOn_11 (z : Value) (σ : sg_S) (b2 : Int) (Q : sg_S → Prop) (rb2 : sg_R b2) (w : V_goOn_11 σ b2 Q) : wx z 1 253 461 [(0, .inr (.inr (.ref 88))), (2, .inl (b2))] [] σ (fun v σ' => v = none ∧ sg_F [112, 35088] σ σ' ∧ Q σ') := by
  unfold V_goOn_11 at w
  refine wk_b tt_253 2 (pc' := 463) (ls' := [(0, .inr (.inr (.ref 88))), (2, .inl (b2))]) (st' := [.inl (b2), .inr (.inr (.ref 88))]) (σ' := σ) rfl ?_
  refine wk_call tt_253 rfl rfl rfl rfl rfl tt_307 rfl (by decide) (w_pushed z σ (b2) _ rb2 w) (fun u6 σ2 hq4 => ?_)
  obtain ⟨rfl, hF3, w⟩ := hq4
  have w := w hF3
  refine wk_b tt_253 1 (pc' := 632) (ls' := [(0, .inr (.inr (.ref 88))), (2, .inl (b2))]) (st' := []) (σ' := σ2) rfl ?_
  exact wk_rV tt_253 rfl rfl ⟨rfl, (sg_F_t (sg_F_r [112, 35088] σ) (sg_F_m (L := [112, 35088]) hF3 rfl)), w⟩
-- NestedVectorsModel.goOn
def V_goOn_12 (σ : sg_S) (Q : sg_S → Prop) : Prop := sg_R ((sg_g σ 88 36) - 1) ∧ ∀ σ2, σ2 = (sg_w σ 88 36 (((sg_g σ 88 36) - 1))) → Q σ2
set_option maxHeartbeats 4000000 in
set_option maxRecDepth 8000 in
theorem w_goOn_12 (z : Value) (σ : sg_S) (Q : sg_S → Prop)  (w : V_goOn_12 σ  Q) : wx z 0 253 469 [(0, .inr (.inr (.ref 88)))] [] σ (fun v σ' => v = none ∧ sg_F [37088] σ σ' ∧ Q σ') := by
  unfold V_goOn_12 at w
  obtain ⟨c1, w⟩ := w
  refine wk_b tt_253 6 (pc' := 479) (ls' := [(0, .inr (.inr (.ref 88)))]) (st' := []) (σ' := (sg_w σ 88 36 (((sg_g σ 88 36) - 1)))) rfl ?_
  generalize hs3 : (sg_w σ 88 36 (((sg_g σ 88 36) - 1))) = σ2
  have w := w σ2 hs3.symm
  have hF4 : sg_F [37088] σ σ2 := by rw [← hs3]; exact sg_F_w (sg_F_r _ _) rfl _
  refine wk_b tt_253 1 (pc' := 632) (ls' := [(0, .inr (.inr (.ref 88)))]) (st' := []) (σ' := σ2) rfl ?_
  exact wk_rV tt_253 rfl rfl ⟨rfl, (sg_F_t (sg_F_r [37088] σ) (sg_F_m (L := [37088]) hF4 rfl)), w⟩
-- NestedVectorsModel.goOn
def V_goOn_13 (σ : sg_S) (b2 : Int) (Q : sg_S → Prop) : Prop := p_isSignNow σ (b2) ∧ V_want σ ((v_isSignNow σ (b2))) (fun σ3 => sg_F [8088, 30088, 31088] σ σ3 → Q σ3)
set_option maxHeartbeats 4000000 in
set_option maxRecDepth 8000 in
theorem w_goOn_13 (z : Value) (σ : sg_S) (b2 : Int) (Q : sg_S → Prop) (rb2 : sg_R b2) (w : V_goOn_13 σ b2 Q) : wx z 2 253 482 [(0, .inr (.inr (.ref 88))), (2, .inl (b2))] [] σ (fun v σ' => v = none ∧ sg_F [8088, 30088, 31088] σ σ' ∧ Q σ') := by
  unfold V_goOn_13 at w
  refine wk_b tt_253 3 (pc' := 485) (ls' := [(0, .inr (.inr (.ref 88))), (2, .inl (b2))]) (st' := [.inl (b2), .inr (.inr (.ref 88)), .inr (.inr (.ref 88))]) (σ' := σ) rfl ?_
  obtain ⟨c1, w⟩ := w
  refine wk_callp tt_253 rfl rfl rfl rfl rfl tt_268 rfl (by decide) (w_isSignNow z σ (b2) rb2 c1) ?_
  refine wk_call tt_253 rfl rfl rfl rfl rfl tt_334 rfl (by decide) (w_want z σ ((v_isSignNow σ (b2))) _ (sg_Rz (vz_isSignNow ..)) w) (fun u7 σ3 hq5 => ?_)
  obtain ⟨rfl, hF4, w⟩ := hq5
  have w := w hF4
  refine wk_b tt_253 1 (pc' := 632) (ls' := [(0, .inr (.inr (.ref 88))), (2, .inl (b2))]) (st' := []) (σ' := σ3) rfl ?_
  exact wk_rV tt_253 rfl rfl ⟨rfl, (sg_F_t (sg_F_r [8088, 30088, 31088] σ) (sg_F_m (L := [8088, 30088, 31088]) hF4 rfl)), w⟩
-- NestedVectorsModel.goOn
def V_goOn_14 (σ : sg_S) (b2 : Int) (Q : sg_S → Prop) : Prop := ∀ v3 : Int, v3 = (if ¬ b2 = 0 then (if ¬ b2 = 1 then (1701606245 : Int) else (1952998766 : Int)) else (26990 : Int)) → sg_RL v3 → p_isWord σ (v3) ∧ V_want σ ((v_isWord σ (v3))) (fun σ8 => sg_F [8088, 30088, 31088] σ σ8 → Q σ8)
set_option maxHeartbeats 4000000 in
set_option maxRecDepth 8000 in
theorem w_goOn_14 (z : Value) (σ : sg_S) (b2 : Int) (Q : sg_S → Prop) (rb2 : sg_R b2) (w : V_goOn_14 σ b2 Q) : wx z 4 253 494 [(0, .inr (.inr (.ref 88))), (2, .inl (b2))] [] σ (fun v σ' => v = none ∧ sg_F [8088, 30088, 31088] σ σ' ∧ Q σ') := by
  unfold V_goOn_14 at w
  refine wk_b tt_253 3 (pc' := 497) (ls' := [(0, .inr (.inr (.ref 88))), (2, .inl (b2))]) (st' := [.inl (b2), .inr (.inr (.ref 88)), .inr (.inr (.ref 88))]) (σ' := σ) rfl ?_
  have jn2 : ∀ v3 : Int, v3 = (if ¬ b2 = 0 then (if ¬ b2 = 1 then (1701606245 : Int) else (1952998766 : Int)) else (26990 : Int)) → sg_RL v3 → wx z 4 253 520 [] [.inr (.inl (v3)), .inr (.inr (.ref 88)), .inr (.inr (.ref 88))] σ (fun v σ' => v = none ∧ sg_F [8088, 30088, 31088] σ σ' ∧ Q σ') := by
    intro v3 e5 r4
    have w := w v3 e5 r4
    obtain ⟨c6, w⟩ := w
    refine wk_callp tt_253 rfl rfl rfl rfl rfl tt_269 rfl (by decide) (w_isWord z σ (v3) r4 c6) ?_
    refine wk_call tt_253 rfl rfl rfl rfl rfl tt_334 rfl (by decide) (w_want z σ ((v_isWord σ (v3))) _ (sg_Rz (vz_isWord ..)) w) (fun u12 σ8 hq10 => ?_)
    obtain ⟨rfl, hF9, w⟩ := hq10
    have w := w hF9
    refine wk_b tt_253 1 (pc' := 632) (ls' := []) (st' := []) (σ' := σ8) rfl ?_
    exact wk_rV tt_253 rfl rfl ⟨rfl, (sg_F_t (sg_F_r [8088, 30088, 31088] σ) (sg_F_m (L := [8088, 30088, 31088]) hF9 rfl)), w⟩
  refine wk_if tt_253 (tgt := 506) rfl rfl rb2 (fun (h1 : ¬ b2 = 0) => ?_) (fun (h1 : b2 = 0) => ?_)
  ·
    clear w
    refine wk_b tt_253 2 (pc' := 508) (ls' := [(0, .inr (.inr (.ref 88))), (2, .inl (b2))]) (st' := [.inl (1), .inl (b2), .inr (.inr (.ref 88)), .inr (.inr (.ref 88))]) (σ' := σ) rfl ?_
    refine wk_if2 tt_253 (tgt := 517) rfl rfl rb2 (by decide) (fun (h13 : ¬ b2 = 1) => ?_) (fun (h13 : b2 = 1) => ?_)
    ·
      refine wk_b tt_253 1 (pc' := 520) (ls' := [(0, .inr (.inr (.ref 88))), (2, .inl (b2))]) (st' := [.inr (.inl (1701606245)), .inr (.inr (.ref 88)), .inr (.inr (.ref 88))]) (σ' := σ) rfl ?_
      exact wk_ls [] rfl trivial (jn2 (1701606245) (by simp only [if_pos h1, if_pos h13]) (by decide))
    ·
      refine wk_b tt_253 2 (pc' := 520) (ls' := [(0, .inr (.inr (.ref 88))), (2, .inl (b2))]) (st' := [.inr (.inl (1952998766)), .inr (.inr (.ref 88)), .inr (.inr (.ref 88))]) (σ' := σ) rfl ?_
      exact wk_ls [] rfl trivial (jn2 (1952998766) (by simp only [if_pos h1, if_neg (show ¬ (¬ b2 = 1) by omega)]) (by decide))
  ·
    clear w
    refine wk_b tt_253 2 (pc' := 520) (ls' := [(0, .inr (.inr (.ref 88))), (2, .inl (b2))]) (st' := [.inr (.inl (26990)), .inr (.inr (.ref 88)), .inr (.inr (.ref 88))]) (σ' := σ) rfl ?_
    exact wk_ls [] rfl trivial (jn2 (26990) (by simp only [if_neg (show ¬ (¬ b2 = 0) by omega)]) (by decide))
-- NestedVectorsModel.goOn
def V_goOn_15 (σ : sg_S) (b2 : Int) (Q : sg_S → Prop) : Prop := p_isSignNow σ (44) ∧ (((v_isSignNow σ (44)) = 0 → (0 ≤ b2 ∧ b2 < 210) ∧ ∀ v6 : Int, v6 = (if ¬ (sg_g σ 93 (b2)) = 14 then (41 : Int) else (93 : Int)) → sg_R v6 → p_isSignNow σ (v6) ∧ V_want σ ((v_isSignNow σ (v6))) (fun σ11 => sg_F [8088, 30088, 31088] σ σ11 → sg_R ((sg_g σ 88 36) - 1) ∧ ∀ σ17, σ17 = (sg_w σ11 88 36 (((sg_g σ 88 36) - 1))) → V_pushed σ17 (b2) (fun σ21 => sg_F [112, 35088] σ17 σ21 → Q σ21))) ∧ (¬ (v_isSignNow σ (44)) = 0 → (0 ≤ b2 ∧ b2 < 210) ∧ (((sg_g σ 96 (b2)) ≤ 0 → ∀ v30 : Int, v30 = (if ¬ (sg_g σ 93 (b2)) = 14 then (41 : Int) else (93 : Int)) → sg_R v30 → p_isSignNow σ (v30) ∧ V_want σ ((v_isSignNow σ (v30))) (fun σ35 => sg_F [8088, 30088, 31088] σ σ35 → sg_R ((sg_g σ 88 36) - 1) ∧ ∀ σ41, σ41 = (sg_w σ35 88 36 (((sg_g σ 88 36) - 1))) → V_pushed σ41 (b2) (fun σ45 => sg_F [112, 35088] σ41 σ45 → Q σ45))) ∧ (0 < (sg_g σ 96 (b2)) → V_want σ (1) (fun σ51 => sg_F [8088, 30088, 31088] σ σ51 → V_pile σ51 (15) (b2) (fun σ57 => sg_F [110, 111, 32088] σ51 σ57 → V_pile σ57 (10) (b2) (fun σ63 => sg_F [110, 111, 32088] σ57 σ63 → V_pile σ63 (0) (0) (fun σ69 => sg_F [110, 111, 32088] σ63 σ69 → Q σ69))))))))
set_option maxHeartbeats 4000000 in
set_option maxRecDepth 8000 in
theorem w_goOn_15 (z : Value) (σ : sg_S) (b2 : Int) (Q : sg_S → Prop) (rb2 : sg_R b2) (w : V_goOn_15 σ b2 Q) : wx z 2 253 529 [(0, .inr (.inr (.ref 88))), (2, .inl (b2))] [] σ (fun v σ' => v = none ∧ sg_F [110, 111, 112, 8088, 30088, 31088, 32088, 35088, 37088] σ σ' ∧ Q σ') := by
  unfold V_goOn_15 at w
  refine wk_b tt_253 2 (pc' := 532) (ls' := [(0, .inr (.inr (.ref 88))), (2, .inl (b2))]) (st' := [.inl (44), .inr (.inr (.ref 88))]) (σ' := σ) rfl ?_
  obtain ⟨c1, w⟩ := w
  refine wk_callp tt_253 rfl rfl rfl rfl rfl tt_268 rfl (by decide) (w_isSignNow z σ (44) (by decide) c1) ?_
  refine wk_if tt_253 (tgt := 575) rfl rfl (sg_Rz (vz_isSignNow ..)) (fun (h2 : (v_isSignNow σ (44)) = 0) => ?_) (fun (h2 : ¬ (v_isSignNow σ (44)) = 0) => ?_)
  ·
    have w := w.1 h2
    refine wk_b tt_253 5 (pc' := 582) (ls' := [(0, .inr (.inr (.ref 88))), (2, .inl (b2))]) (st' := [.inl (b2), .inr (.inr (.ref 93)), .inr (.inr (.ref 88)), .inr (.inr (.ref 88))]) (σ' := σ) rfl ?_
    obtain ⟨c3, w⟩ := w
    refine wk_ia tt_253 rfl rfl c3.1 c3.2 rb2 ?_
    refine wk_b tt_253 1 (pc' := 585) (ls' := [(0, .inr (.inr (.ref 88))), (2, .inl (b2))]) (st' := [.inl (14), .inl ((sg_g σ 93 (b2))), .inr (.inr (.ref 88)), .inr (.inr (.ref 88))]) (σ' := σ) rfl ?_
    have jn5 : ∀ v6 : Int, v6 = (if ¬ (sg_g σ 93 (b2)) = 14 then (41 : Int) else (93 : Int)) → sg_R v6 → wx z 2 253 595 [(0, .inr (.inr (.ref 88))), (2, .inl (b2))] [.inl (v6), .inr (.inr (.ref 88)), .inr (.inr (.ref 88))] σ (fun v σ' => v = none ∧ sg_F [110, 111, 112, 8088, 30088, 31088, 32088, 35088, 37088] σ σ' ∧ Q σ') := by
      intro v6 e8 r7
      have w := w v6 e8 r7
      obtain ⟨c9, w⟩ := w
      refine wk_callp tt_253 rfl rfl rfl rfl rfl tt_268 rfl (by decide) (w_isSignNow z σ (v6) r7 c9) ?_
      refine wk_call tt_253 rfl rfl rfl rfl rfl tt_334 rfl (by decide) (w_want z σ ((v_isSignNow σ (v6))) _ (sg_Rz (vz_isSignNow ..)) w) (fun u15 σ11 hq13 => ?_)
      obtain ⟨rfl, hF12, w⟩ := hq13
      have w := w hF12
      obtain ⟨c16, w⟩ := w
      refine wk_b tt_253 6 (pc' := 611) (ls' := [(0, .inr (.inr (.ref 88))), (2, .inl (b2))]) (st' := []) (σ' := (sg_w σ11 88 36 (((sg_g σ11 88 36) - 1)))) rfl ?_
      rw [show (sg_g σ11 88 36) = (sg_g σ 88 36) from by rw [sg_F_g hF12 rfl]]
      generalize hs18 : (sg_w σ11 88 36 (((sg_g σ 88 36) - 1))) = σ17
      have w := w σ17 hs18.symm
      have hF19 : sg_F [37088] σ11 σ17 := by rw [← hs18]; exact sg_F_w (sg_F_r _ _) rfl _
      refine wk_b tt_253 2 (pc' := 613) (ls' := [(0, .inr (.inr (.ref 88))), (2, .inl (b2))]) (st' := [.inl (b2), .inr (.inr (.ref 88))]) (σ' := σ17) rfl ?_
      refine wk_call tt_253 rfl rfl rfl rfl rfl tt_307 rfl (by decide) (w_pushed z σ17 (b2) _ rb2 w) (fun u25 σ21 hq23 => ?_)
      obtain ⟨rfl, hF22, w⟩ := hq23
      have w := w hF22
      refine wk_b tt_253 1 (pc' := 632) (ls' := [(0, .inr (.inr (.ref 88))), (2, .inl (b2))]) (st' := []) (σ' := σ21) rfl ?_
      exact wk_rV tt_253 rfl rfl ⟨rfl, (sg_F_t (sg_F_t (sg_F_t (sg_F_r [110, 111, 112, 8088, 30088, 31088, 32088, 35088, 37088] σ) (sg_F_m (L := [110, 111, 112, 8088, 30088, 31088, 32088, 35088, 37088]) hF12 rfl)) (sg_F_m (L := [110, 111, 112, 8088, 30088, 31088, 32088, 35088, 37088]) hF19 rfl)) (sg_F_m (L := [110, 111, 112, 8088, 30088, 31088, 32088, 35088, 37088]) hF22 rfl)), w⟩
    refine wk_if2 tt_253 (tgt := 593) rfl rfl (sg_Rg _ _ _) (by decide) (fun (h4 : ¬ (sg_g σ 93 (b2)) = 14) => ?_) (fun (h4 : (sg_g σ 93 (b2)) = 14) => ?_)
    ·
      clear w
      refine wk_b tt_253 1 (pc' := 595) (ls' := [(0, .inr (.inr (.ref 88))), (2, .inl (b2))]) (st' := [.inl (41), .inr (.inr (.ref 88)), .inr (.inr (.ref 88))]) (σ' := σ) rfl ?_
      exact wk_ls [(0, .inr (.inr (.ref 88))), (2, .inl (b2))] rfl ⟨rfl, rfl, trivial⟩ (jn5 (41) (by simp only [if_pos h4]) (by decide))
    ·
      clear w
      refine wk_b tt_253 2 (pc' := 595) (ls' := [(0, .inr (.inr (.ref 88))), (2, .inl (b2))]) (st' := [.inl (93), .inr (.inr (.ref 88)), .inr (.inr (.ref 88))]) (σ' := σ) rfl ?_
      exact wk_ls [(0, .inr (.inr (.ref 88))), (2, .inl (b2))] rfl ⟨rfl, rfl, trivial⟩ (jn5 (93) (by simp only [if_neg (show ¬ (¬ (sg_g σ 93 (b2)) = 14) by omega)]) (by decide))
  ·
    have w := w.2 h2
    refine wk_b tt_253 3 (pc' := 543) (ls' := [(0, .inr (.inr (.ref 88))), (2, .inl (b2))]) (st' := [.inl (b2), .inr (.inr (.ref 96))]) (σ' := σ) rfl ?_
    obtain ⟨c26, w⟩ := w
    refine wk_ia tt_253 rfl rfl c26.1 c26.2 rb2 ?_
    refine wk_if tt_253 (tgt := 575) rfl rfl (sg_Rg _ _ _) (fun (h27 : (sg_g σ 96 (b2)) ≤ 0) => ?_) (fun (h27 : 0 < (sg_g σ 96 (b2))) => ?_)
    ·
      have w := w.1 h27
      refine wk_b tt_253 5 (pc' := 582) (ls' := [(0, .inr (.inr (.ref 88))), (2, .inl (b2))]) (st' := [.inl (b2), .inr (.inr (.ref 93)), .inr (.inr (.ref 88)), .inr (.inr (.ref 88))]) (σ' := σ) rfl ?_
      refine wk_ia tt_253 rfl rfl c26.1 c26.2 rb2 ?_
      refine wk_b tt_253 1 (pc' := 585) (ls' := [(0, .inr (.inr (.ref 88))), (2, .inl (b2))]) (st' := [.inl (14), .inl ((sg_g σ 93 (b2))), .inr (.inr (.ref 88)), .inr (.inr (.ref 88))]) (σ' := σ) rfl ?_
      have jn29 : ∀ v30 : Int, v30 = (if ¬ (sg_g σ 93 (b2)) = 14 then (41 : Int) else (93 : Int)) → sg_R v30 → wx z 2 253 595 [(0, .inr (.inr (.ref 88))), (2, .inl (b2))] [.inl (v30), .inr (.inr (.ref 88)), .inr (.inr (.ref 88))] σ (fun v σ' => v = none ∧ sg_F [110, 111, 112, 8088, 30088, 31088, 32088, 35088, 37088] σ σ' ∧ Q σ') := by
        intro v30 e32 r31
        have w := w v30 e32 r31
        obtain ⟨c33, w⟩ := w
        refine wk_callp tt_253 rfl rfl rfl rfl rfl tt_268 rfl (by decide) (w_isSignNow z σ (v30) r31 c33) ?_
        refine wk_call tt_253 rfl rfl rfl rfl rfl tt_334 rfl (by decide) (w_want z σ ((v_isSignNow σ (v30))) _ (sg_Rz (vz_isSignNow ..)) w) (fun u39 σ35 hq37 => ?_)
        obtain ⟨rfl, hF36, w⟩ := hq37
        have w := w hF36
        obtain ⟨c40, w⟩ := w
        refine wk_b tt_253 6 (pc' := 611) (ls' := [(0, .inr (.inr (.ref 88))), (2, .inl (b2))]) (st' := []) (σ' := (sg_w σ35 88 36 (((sg_g σ35 88 36) - 1)))) rfl ?_
        rw [show (sg_g σ35 88 36) = (sg_g σ 88 36) from by rw [sg_F_g hF36 rfl]]
        generalize hs42 : (sg_w σ35 88 36 (((sg_g σ 88 36) - 1))) = σ41
        have w := w σ41 hs42.symm
        have hF43 : sg_F [37088] σ35 σ41 := by rw [← hs42]; exact sg_F_w (sg_F_r _ _) rfl _
        refine wk_b tt_253 2 (pc' := 613) (ls' := [(0, .inr (.inr (.ref 88))), (2, .inl (b2))]) (st' := [.inl (b2), .inr (.inr (.ref 88))]) (σ' := σ41) rfl ?_
        refine wk_call tt_253 rfl rfl rfl rfl rfl tt_307 rfl (by decide) (w_pushed z σ41 (b2) _ rb2 w) (fun u49 σ45 hq47 => ?_)
        obtain ⟨rfl, hF46, w⟩ := hq47
        have w := w hF46
        refine wk_b tt_253 1 (pc' := 632) (ls' := [(0, .inr (.inr (.ref 88))), (2, .inl (b2))]) (st' := []) (σ' := σ45) rfl ?_
        exact wk_rV tt_253 rfl rfl ⟨rfl, (sg_F_t (sg_F_t (sg_F_t (sg_F_r [110, 111, 112, 8088, 30088, 31088, 32088, 35088, 37088] σ) (sg_F_m (L := [110, 111, 112, 8088, 30088, 31088, 32088, 35088, 37088]) hF36 rfl)) (sg_F_m (L := [110, 111, 112, 8088, 30088, 31088, 32088, 35088, 37088]) hF43 rfl)) (sg_F_m (L := [110, 111, 112, 8088, 30088, 31088, 32088, 35088, 37088]) hF46 rfl)), w⟩
      refine wk_if2 tt_253 (tgt := 593) rfl rfl (sg_Rg _ _ _) (by decide) (fun (h28 : ¬ (sg_g σ 93 (b2)) = 14) => ?_) (fun (h28 : (sg_g σ 93 (b2)) = 14) => ?_)
      ·
        clear w
        refine wk_b tt_253 1 (pc' := 595) (ls' := [(0, .inr (.inr (.ref 88))), (2, .inl (b2))]) (st' := [.inl (41), .inr (.inr (.ref 88)), .inr (.inr (.ref 88))]) (σ' := σ) rfl ?_
        exact wk_ls [(0, .inr (.inr (.ref 88))), (2, .inl (b2))] rfl ⟨rfl, rfl, trivial⟩ (jn29 (41) (by simp only [if_pos h28]) (by decide))
      ·
        clear w
        refine wk_b tt_253 2 (pc' := 595) (ls' := [(0, .inr (.inr (.ref 88))), (2, .inl (b2))]) (st' := [.inl (93), .inr (.inr (.ref 88)), .inr (.inr (.ref 88))]) (σ' := σ) rfl ?_
        exact wk_ls [(0, .inr (.inr (.ref 88))), (2, .inl (b2))] rfl ⟨rfl, rfl, trivial⟩ (jn29 (93) (by simp only [if_neg (show ¬ (¬ (sg_g σ 93 (b2)) = 14) by omega)]) (by decide))
    ·
      have w := w.2 h27
      refine wk_b tt_253 2 (pc' := 549) (ls' := [(0, .inr (.inr (.ref 88))), (2, .inl (b2))]) (st' := [.inl (1), .inr (.inr (.ref 88))]) (σ' := σ) rfl ?_
      refine wk_call tt_253 rfl rfl rfl rfl rfl tt_334 rfl (by decide) (w_want z σ (1) _ (by decide) w) (fun u55 σ51 hq53 => ?_)
      obtain ⟨rfl, hF52, w⟩ := hq53
      have w := w hF52
      refine wk_b tt_253 3 (pc' := 556) (ls' := [(0, .inr (.inr (.ref 88))), (2, .inl (b2))]) (st' := [.inl (b2), .inl (15), .inr (.inr (.ref 88))]) (σ' := σ51) rfl ?_
      refine wk_call tt_253 rfl rfl rfl rfl rfl tt_305 rfl (by decide) (w_pile z σ51 (15) (b2) _ (by decide) rb2 w) (fun u61 σ57 hq59 => ?_)
      obtain ⟨rfl, hF58, w⟩ := hq59
      have w := w hF58
      refine wk_b tt_253 3 (pc' := 563) (ls' := [(0, .inr (.inr (.ref 88))), (2, .inl (b2))]) (st' := [.inl (b2), .inl (10), .inr (.inr (.ref 88))]) (σ' := σ57) rfl ?_
      refine wk_call tt_253 rfl rfl rfl rfl rfl tt_305 rfl (by decide) (w_pile z σ57 (10) (b2) _ (by decide) rb2 w) (fun u67 σ63 hq65 => ?_)
      obtain ⟨rfl, hF64, w⟩ := hq65
      have w := w hF64
      refine wk_b tt_253 3 (pc' := 569) (ls' := [(0, .inr (.inr (.ref 88))), (2, .inl (b2))]) (st' := [.inl (0), .inl (0), .inr (.inr (.ref 88))]) (σ' := σ63) rfl ?_
      refine wk_call tt_253 rfl rfl rfl rfl rfl tt_305 rfl (by decide) (w_pile z σ63 (0) (0) _ (by decide) (by decide) w) (fun u73 σ69 hq71 => ?_)
      obtain ⟨rfl, hF70, w⟩ := hq71
      have w := w hF70
      refine wk_b tt_253 1 (pc' := 632) (ls' := [(0, .inr (.inr (.ref 88))), (2, .inl (b2))]) (st' := []) (σ' := σ69) rfl ?_
      exact wk_rV tt_253 rfl rfl ⟨rfl, (sg_F_t (sg_F_t (sg_F_t (sg_F_t (sg_F_r [110, 111, 112, 8088, 30088, 31088, 32088, 35088, 37088] σ) (sg_F_m (L := [110, 111, 112, 8088, 30088, 31088, 32088, 35088, 37088]) hF52 rfl)) (sg_F_m (L := [110, 111, 112, 8088, 30088, 31088, 32088, 35088, 37088]) hF58 rfl)) (sg_F_m (L := [110, 111, 112, 8088, 30088, 31088, 32088, 35088, 37088]) hF64 rfl)) (sg_F_m (L := [110, 111, 112, 8088, 30088, 31088, 32088, 35088, 37088]) hF70 rfl)), w⟩
-- NestedVectorsModel.readGen
def V_readGen (σ : sg_S) (a1 : Int) (Q : sg_S → Prop) : Prop := (0 ≤ a1 ∧ a1 < 210) ∧ (∃ P4 : sg_S → Prop, ((¬ (sg_g σ 98 (a1)) = 4 → P4 σ) ∧ ((sg_g σ 98 (a1)) = 4 → (0 ≤ (sg_g σ 88 7) ∧ (sg_g σ 88 7) < 1210) ∧ V_wrong σ (1) ((sg_g σ 91 ((sg_g σ 88 7)))) (fun σ57 => sg_F [30088, 31088] σ σ57 → P4 σ57))) ∧ (∀ (σ5 : sg_S), sg_F [30088, 31088] σ σ5 → P4 σ5 → (((sg_g σ5 88 29) = 0 → sg_R (4 * a1) ∧ sg_R ((4 * a1) + (sg_g σ 98 (a1))) ∧ (0 ≤ (sg_g σ 88 7) ∧ (sg_g σ 88 7) < 1210) ∧ (0 ≤ ((4 * a1) + (sg_g σ 98 (a1))) ∧ ((4 * a1) + (sg_g σ 98 (a1))) < 840) ∧ ∀ σ13, σ13 = (sg_wl σ5 99 (((4 * a1) + (sg_g σ 98 (a1)))) ((sg_gl σ 92 ((sg_g σ 88 7))))) → ∀ σ16, σ16 = (sg_w σ13 100 (((4 * a1) + (sg_g σ 98 (a1)))) ((sg_g σ 91 ((sg_g σ 88 7))))) → p_isName σ  ∧ V_want σ16 ((v_isName σ)) (fun σ21 => sg_F [8088, 30088, 31088] σ16 σ21 → p_isWord σ21 (26990) ∧ V_want σ21 ((v_isWord σ21 (26990))) (fun σ28 => sg_F [8088, 30088, 31088] σ21 σ28 → sg_R ((sg_g σ 98 (a1)) + 1) ∧ ∀ σ34, σ34 = (sg_w σ28 98 (a1) (((sg_g σ 98 (a1)) + 1))) → V_pile σ34 (17) (a1) (fun σ38 => sg_F [110, 111, 32088] σ34 σ38 → V_pile σ38 (10) (a1) (fun σ44 => sg_F [110, 111, 32088] σ38 σ44 → V_pile σ44 (0) (0) (fun σ50 => sg_F [110, 111, 32088] σ44 σ50 → Q σ50)))))) ∧ (¬ (sg_g σ5 88 29) = 0 → Q σ5))))
set_option maxHeartbeats 4000000 in
set_option maxRecDepth 8000 in
theorem w_readGen (z : Value) (σ : sg_S) (a1 : Int) (Q : sg_S → Prop) (ra1 : sg_R a1) (w : V_readGen σ a1 Q) : wx z 6 315 0 [(0, .inr (.inr (.ref 88))), (1, .inl (a1))] [] σ (fun v σ' => v = none ∧ sg_F [98, 99, 100, 110, 111, 8088, 30088, 31088, 32088] σ σ' ∧ Q σ') := by
  unfold V_readGen at w
  refine wk_b tt_315 3 (pc' := 5) (ls' := [(0, .inr (.inr (.ref 88))), (1, .inl (a1))]) (st' := [.inl (a1), .inr (.inr (.ref 98))]) (σ' := σ) rfl ?_
  obtain ⟨c1, w⟩ := w
  refine wk_ia tt_315 rfl rfl c1.1 c1.2 ra1 ?_
  refine wk_b tt_315 1 (pc' := 7) (ls' := [(0, .inr (.inr (.ref 88))), (1, .inl (a1))]) (st' := [.inl (4), .inl ((sg_g σ 98 (a1)))]) (σ' := σ) rfl ?_
  obtain ⟨P4, w, w7⟩ := w
  have jn3 : ∀ (σ5 : sg_S), sg_F [30088, 31088] σ σ5 → P4 σ5 → wx z 6 315 24 [(0, .inr (.inr (.ref 88))), (1, .inl (a1))] [] σ5 (fun v σ' => v = none ∧ sg_F [98, 99, 100, 110, 111, 8088, 30088, 31088, 32088] σ σ' ∧ Q σ') := by
    intro σ5 hF6 w
    have w := w7 σ5 hF6 w
    refine wk_b tt_315 2 (pc' := 28) (ls' := [(0, .inr (.inr (.ref 88))), (1, .inl (a1))]) (st' := [.inl ((sg_g σ5 88 29))]) (σ' := σ5) rfl ?_
    refine wk_if tt_315 (tgt := 32) rfl rfl (sg_Rg _ _ _) (fun (h8 : (sg_g σ5 88 29) = 0) => ?_) (fun (h8 : ¬ (sg_g σ5 88 29) = 0) => ?_)
    ·
      have w := w.1 h8
      obtain ⟨c9, w⟩ := w
      refine wk_b tt_315 8 (pc' := 44) (ls' := [(0, .inr (.inr (.ref 88))), (1, .inl (a1))]) (st' := [.inl (a1), .inr (.inr (.ref 98)), .inl ((4 * a1)), .inr (.inr (.ref 99))]) (σ' := σ5) rfl ?_
      refine wk_ia tt_315 rfl rfl c1.1 c1.2 ra1 ?_
      rw [show (sg_g σ5 98 (a1)) = (sg_g σ 98 (a1)) from by rw [sg_F_ga hF6 rfl]]
      obtain ⟨c10, w⟩ := w
      refine wk_b tt_315 5 (pc' := 54) (ls' := [(0, .inr (.inr (.ref 88))), (1, .inl (a1))]) (st' := [.inl ((sg_g σ5 88 7)), .inr (.inr (.ref 92)), .inl (((4 * a1) + (sg_g σ 98 (a1)))), .inr (.inr (.ref 99))]) (σ' := σ5) rfl ?_
      rw [show (sg_g σ5 88 7) = (sg_g σ 88 7) from by rw [sg_F_g hF6 rfl]]
      obtain ⟨c11, w⟩ := w
      refine wk_la tt_315 rfl rfl c11.1 c11.2 (sg_Rg _ _ _) ?_
      rw [show (sg_gl σ5 92 ((sg_g σ 88 7))) = (sg_gl σ 92 ((sg_g σ 88 7))) from by rw [sg_F_gal hF6 rfl]]
      obtain ⟨c12, w⟩ := w
      refine wk_lS tt_315 rfl rfl c12.1 c12.2 c10 ?_
      generalize hs14 : (sg_wl σ5 99 (((4 * a1) + (sg_g σ 98 (a1)))) ((sg_gl σ 92 ((sg_g σ 88 7))))) = σ13
      have w := w σ13 hs14.symm
      have hF15 : sg_F [99] σ5 σ13 := by rw [← hs14]; exact sg_F_wl (sg_F_r _ _) rfl _
      refine wk_b tt_315 8 (pc' := 68) (ls' := [(0, .inr (.inr (.ref 88))), (1, .inl (a1))]) (st' := [.inl (a1), .inr (.inr (.ref 98)), .inl ((4 * a1)), .inr (.inr (.ref 100))]) (σ' := σ13) rfl ?_
      refine wk_ia tt_315 rfl rfl c1.1 c1.2 ra1 ?_
      rw [show (sg_g σ13 98 (a1)) = (sg_g σ 98 (a1)) from by rw [sg_F_ga hF15 rfl, sg_F_ga hF6 rfl]]
      refine wk_b tt_315 5 (pc' := 78) (ls' := [(0, .inr (.inr (.ref 88))), (1, .inl (a1))]) (st' := [.inl ((sg_g σ13 88 7)), .inr (.inr (.ref 91)), .inl (((4 * a1) + (sg_g σ 98 (a1)))), .inr (.inr (.ref 100))]) (σ' := σ13) rfl ?_
      rw [show (sg_g σ13 88 7) = (sg_g σ 88 7) from by rw [sg_F_ga hF15 rfl, sg_F_g hF6 rfl]]
      refine wk_ia tt_315 rfl rfl c11.1 c11.2 (sg_Rg _ _ _) ?_
      rw [show (sg_g σ13 91 ((sg_g σ 88 7))) = (sg_g σ 91 ((sg_g σ 88 7))) from by rw [sg_F_ga hF15 rfl, sg_F_ga hF6 rfl]]
      refine wk_is tt_315 rfl rfl c12.1 c12.2 c10 ?_
      generalize hs17 : (sg_w σ13 100 (((4 * a1) + (sg_g σ 98 (a1)))) ((sg_g σ 91 ((sg_g σ 88 7))))) = σ16
      have w := w σ16 hs17.symm
      have hF18 : sg_F [100] σ13 σ16 := by rw [← hs17]; exact sg_F_w (sg_F_r _ _) rfl _
      refine wk_b tt_315 2 (pc' := 82) (ls' := [(0, .inr (.inr (.ref 88))), (1, .inl (a1))]) (st' := [.inr (.inr (.ref 88)), .inr (.inr (.ref 88))]) (σ' := σ16) rfl ?_
      obtain ⟨c19, w⟩ := w
      have c19 : p_isName σ16  := by
        rw [pF_isName hF18 rfl rfl rfl, pF_isName hF15 rfl rfl rfl, pF_isName hF6 rfl rfl rfl]; exact c19
      refine wk_callp tt_315 rfl rfl rfl rfl rfl tt_264 rfl (by decide) (w_isName z σ16   c19) ?_
      rw [vF_isName hF18 rfl rfl rfl, vF_isName hF15 rfl rfl rfl, vF_isName hF6 rfl rfl rfl]
      refine wk_call tt_315 rfl rfl rfl rfl rfl tt_334 rfl (by decide) (w_want z σ16 ((v_isName σ)) _ (sg_Rz (vz_isName ..)) w) (fun u25 σ21 hq23 => ?_)
      obtain ⟨rfl, hF22, w⟩ := hq23
      have w := w hF22
      refine wk_b tt_315 3 (pc' := 93) (ls' := [(0, .inr (.inr (.ref 88))), (1, .inl (a1))]) (st' := [.inr (.inl (26990)), .inr (.inr (.ref 88)), .inr (.inr (.ref 88))]) (σ' := σ21) rfl ?_
      obtain ⟨c26, w⟩ := w
      refine wk_callp tt_315 rfl rfl rfl rfl rfl tt_269 rfl (by decide) (w_isWord z σ21 (26990) (by decide) c26) ?_
      refine wk_call tt_315 rfl rfl rfl rfl rfl tt_334 rfl (by decide) (w_want z σ21 ((v_isWord σ21 (26990))) _ (sg_Rz (vz_isWord ..)) w) (fun u32 σ28 hq30 => ?_)
      obtain ⟨rfl, hF29, w⟩ := hq30
      have w := w hF29
      refine wk_b tt_315 4 (pc' := 105) (ls' := [(0, .inr (.inr (.ref 88))), (1, .inl (a1))]) (st' := [.inl (a1), .inr (.inr (.ref 98)), .inl (a1), .inr (.inr (.ref 98))]) (σ' := σ28) rfl ?_
      refine wk_ia tt_315 rfl rfl c1.1 c1.2 ra1 ?_
      rw [show (sg_g σ28 98 (a1)) = (sg_g σ 98 (a1)) from by rw [sg_F_ga hF29 rfl, sg_F_ga hF22 rfl, sg_F_ga hF18 rfl, sg_F_ga hF15 rfl, sg_F_ga hF6 rfl]]
      obtain ⟨c33, w⟩ := w
      refine wk_b tt_315 2 (pc' := 108) (ls' := [(0, .inr (.inr (.ref 88))), (1, .inl (a1))]) (st' := [.inl (((sg_g σ 98 (a1)) + 1)), .inl (a1), .inr (.inr (.ref 98))]) (σ' := σ28) rfl ?_
      refine wk_is tt_315 rfl rfl c1.1 c1.2 ra1 ?_
      generalize hs35 : (sg_w σ28 98 (a1) (((sg_g σ 98 (a1)) + 1))) = σ34
      have w := w σ34 hs35.symm
      have hF36 : sg_F [98] σ28 σ34 := by rw [← hs35]; exact sg_F_w (sg_F_r _ _) rfl _
      refine wk_b tt_315 3 (pc' := 113) (ls' := [(0, .inr (.inr (.ref 88))), (1, .inl (a1))]) (st' := [.inl (a1), .inl (17), .inr (.inr (.ref 88))]) (σ' := σ34) rfl ?_
      refine wk_call tt_315 rfl rfl rfl rfl rfl tt_305 rfl (by decide) (w_pile z σ34 (17) (a1) _ (by decide) ra1 w) (fun u42 σ38 hq40 => ?_)
      obtain ⟨rfl, hF39, w⟩ := hq40
      have w := w hF39
      refine wk_b tt_315 3 (pc' := 120) (ls' := [(0, .inr (.inr (.ref 88))), (1, .inl (a1))]) (st' := [.inl (a1), .inl (10), .inr (.inr (.ref 88))]) (σ' := σ38) rfl ?_
      refine wk_call tt_315 rfl rfl rfl rfl rfl tt_305 rfl (by decide) (w_pile z σ38 (10) (a1) _ (by decide) ra1 w) (fun u48 σ44 hq46 => ?_)
      obtain ⟨rfl, hF45, w⟩ := hq46
      have w := w hF45
      refine wk_b tt_315 3 (pc' := 126) (ls' := [(0, .inr (.inr (.ref 88))), (1, .inl (a1))]) (st' := [.inl (0), .inl (0), .inr (.inr (.ref 88))]) (σ' := σ44) rfl ?_
      refine wk_call tt_315 rfl rfl rfl rfl rfl tt_305 rfl (by decide) (w_pile z σ44 (0) (0) _ (by decide) (by decide) w) (fun u54 σ50 hq52 => ?_)
      obtain ⟨rfl, hF51, w⟩ := hq52
      have w := w hF51
      exact wk_rV tt_315 rfl rfl ⟨rfl, (sg_F_t (sg_F_t (sg_F_t (sg_F_t (sg_F_t (sg_F_t (sg_F_t (sg_F_t (sg_F_t (sg_F_r [98, 99, 100, 110, 111, 8088, 30088, 31088, 32088] σ) (sg_F_m (L := [98, 99, 100, 110, 111, 8088, 30088, 31088, 32088]) hF6 rfl)) (sg_F_m (L := [98, 99, 100, 110, 111, 8088, 30088, 31088, 32088]) hF15 rfl)) (sg_F_m (L := [98, 99, 100, 110, 111, 8088, 30088, 31088, 32088]) hF18 rfl)) (sg_F_m (L := [98, 99, 100, 110, 111, 8088, 30088, 31088, 32088]) hF22 rfl)) (sg_F_m (L := [98, 99, 100, 110, 111, 8088, 30088, 31088, 32088]) hF29 rfl)) (sg_F_m (L := [98, 99, 100, 110, 111, 8088, 30088, 31088, 32088]) hF36 rfl)) (sg_F_m (L := [98, 99, 100, 110, 111, 8088, 30088, 31088, 32088]) hF39 rfl)) (sg_F_m (L := [98, 99, 100, 110, 111, 8088, 30088, 31088, 32088]) hF45 rfl)) (sg_F_m (L := [98, 99, 100, 110, 111, 8088, 30088, 31088, 32088]) hF51 rfl)), w⟩
    ·
      have w := w.2 h8
      exact wk_rV tt_315 rfl rfl ⟨rfl, (sg_F_t (sg_F_r [98, 99, 100, 110, 111, 8088, 30088, 31088, 32088] σ) (sg_F_m (L := [98, 99, 100, 110, 111, 8088, 30088, 31088, 32088]) hF6 rfl)), w⟩
  refine wk_if2 tt_315 (tgt := 24) rfl rfl (sg_Rg _ _ _) (by decide) (fun (h2 : ¬ (sg_g σ 98 (a1)) = 4) => ?_) (fun (h2 : (sg_g σ 98 (a1)) = 4) => ?_)
  ·
    have w := w.1 h2
    exact wk_ls [(0, .inr (.inr (.ref 88))), (1, .inl (a1))] rfl ⟨rfl, rfl, trivial⟩ (jn3 σ (sg_F_r [30088, 31088] σ) w)
  ·
    have w := w.2 h2
    refine wk_b tt_315 6 (pc' := 20) (ls' := [(0, .inr (.inr (.ref 88))), (1, .inl (a1))]) (st' := [.inl ((sg_g σ 88 7)), .inr (.inr (.ref 91)), .inl (1), .inr (.inr (.ref 88))]) (σ' := σ) rfl ?_
    obtain ⟨c55, w⟩ := w
    refine wk_ia tt_315 rfl rfl c55.1 c55.2 (sg_Rg _ _ _) ?_
    refine wk_call tt_315 rfl rfl rfl rfl rfl tt_336 rfl (by decide) (w_wrong z σ (1) ((sg_g σ 91 ((sg_g σ 88 7)))) _ (by decide) (sg_Rg _ _ _) w) (fun u61 σ57 hq59 => ?_)
    obtain ⟨rfl, hF58, w⟩ := hq59
    have w := w hF58
    exact wk_ls [(0, .inr (.inr (.ref 88))), (1, .inl (a1))] rfl ⟨rfl, rfl, trivial⟩ (jn3 σ57 (sg_F_t (sg_F_r [30088, 31088] σ) (sg_F_m (L := [30088, 31088]) hF58 rfl)) w)
-- NestedVectorsModel.goOn
def V_goOn_16 (σ : sg_S) (b2 : Int) (Q : sg_S → Prop) : Prop := V_readGen σ (b2) (fun σ2 => sg_F [98, 99, 100, 110, 111, 8088, 30088, 31088, 32088] σ σ2 → Q σ2)
set_option maxHeartbeats 4000000 in
set_option maxRecDepth 8000 in
theorem w_goOn_16 (z : Value) (σ : sg_S) (b2 : Int) (Q : sg_S → Prop) (rb2 : sg_R b2) (w : V_goOn_16 σ b2 Q) : wx z 7 253 619 [(0, .inr (.inr (.ref 88))), (2, .inl (b2))] [] σ (fun v σ' => v = none ∧ sg_F [98, 99, 100, 110, 111, 8088, 30088, 31088, 32088] σ σ' ∧ Q σ') := by
  unfold V_goOn_16 at w
  refine wk_b tt_253 2 (pc' := 621) (ls' := [(0, .inr (.inr (.ref 88))), (2, .inl (b2))]) (st' := [.inl (b2), .inr (.inr (.ref 88))]) (σ' := σ) rfl ?_
  refine wk_call tt_253 rfl rfl rfl rfl rfl tt_315 rfl (by decide) (w_readGen z σ (b2) _ rb2 w) (fun u6 σ2 hq4 => ?_)
  obtain ⟨rfl, hF3, w⟩ := hq4
  have w := w hF3
  refine wk_b tt_253 1 (pc' := 632) (ls' := [(0, .inr (.inr (.ref 88))), (2, .inl (b2))]) (st' := []) (σ' := σ2) rfl ?_
  exact wk_rV tt_253 rfl rfl ⟨rfl, (sg_F_t (sg_F_r [98, 99, 100, 110, 111, 8088, 30088, 31088, 32088] σ) (sg_F_m (L := [98, 99, 100, 110, 111, 8088, 30088, 31088, 32088]) hF3 rfl)), w⟩
-- NestedVectorsModel.readGenned
def V_readGenned (σ : sg_S) (a1 : Int) (Q : sg_S → Prop) : Prop := p_isSignNow σ (44) ∧ (((v_isSignNow σ (44)) = 0 → p_isSignNow σ (124) ∧ (((v_isSignNow σ (124)) = 0 → V_pile σ (11) (a1) (fun σ6 => sg_F [110, 111, 32088] σ σ6 → V_pile σ6 (12) (0) (fun σ12 => sg_F [110, 111, 32088] σ6 σ12 → V_pile σ12 (13) (125) (fun σ18 => sg_F [110, 111, 32088] σ12 σ18 → Q σ18)))) ∧ (¬ (v_isSignNow σ (124)) = 0 → V_want σ (1) (fun σ24 => sg_F [8088, 30088, 31088] σ σ24 → V_pile σ24 (11) (a1) (fun σ30 => sg_F [110, 111, 32088] σ24 σ30 → V_pile σ30 (12) (0) (fun σ36 => sg_F [110, 111, 32088] σ30 σ36 → V_pile σ36 (13) (125) (fun σ42 => sg_F [110, 111, 32088] σ36 σ42 → V_pile σ42 (10) (a1) (fun σ48 => sg_F [110, 111, 32088] σ42 σ48 → V_pile σ48 (0) (0) (fun σ54 => sg_F [110, 111, 32088] σ48 σ54 → Q σ54))))))))) ∧ (¬ (v_isSignNow σ (44)) = 0 → (0 ≤ a1 ∧ a1 < 210) ∧ sg_R (1 + (sg_g σ 98 (a1))) ∧ ((¬ (sg_g σ 96 (a1)) = (1 + (sg_g σ 98 (a1))) → p_isSignNow σ (124) ∧ (((v_isSignNow σ (124)) = 0 → V_pile σ (11) (a1) (fun σ65 => sg_F [110, 111, 32088] σ σ65 → V_pile σ65 (12) (0) (fun σ71 => sg_F [110, 111, 32088] σ65 σ71 → V_pile σ71 (13) (125) (fun σ77 => sg_F [110, 111, 32088] σ71 σ77 → Q σ77)))) ∧ (¬ (v_isSignNow σ (124)) = 0 → V_want σ (1) (fun σ83 => sg_F [8088, 30088, 31088] σ σ83 → V_pile σ83 (11) (a1) (fun σ89 => sg_F [110, 111, 32088] σ83 σ89 → V_pile σ89 (12) (0) (fun σ95 => sg_F [110, 111, 32088] σ89 σ95 → V_pile σ95 (13) (125) (fun σ101 => sg_F [110, 111, 32088] σ95 σ101 → V_pile σ101 (10) (a1) (fun σ107 => sg_F [110, 111, 32088] σ101 σ107 → V_pile σ107 (0) (0) (fun σ113 => sg_F [110, 111, 32088] σ107 σ113 → Q σ113))))))))) ∧ ((sg_g σ 96 (a1)) = (1 + (sg_g σ 98 (a1))) → V_want σ (1) (fun σ119 => sg_F [8088, 30088, 31088] σ σ119 → V_pile σ119 (16) (a1) (fun σ125 => sg_F [110, 111, 32088] σ119 σ125 → Q σ125))))))
set_option maxHeartbeats 4000000 in
set_option maxRecDepth 8000 in
theorem w_readGenned (z : Value) (σ : sg_S) (a1 : Int) (Q : sg_S → Prop) (ra1 : sg_R a1) (w : V_readGenned σ a1 Q) : wx z 2 316 0 [(0, .inr (.inr (.ref 88))), (1, .inl (a1))] [] σ (fun v σ' => v = none ∧ sg_F [110, 111, 8088, 30088, 31088, 32088] σ σ' ∧ Q σ') := by
  unfold V_readGenned at w
  refine wk_b tt_316 2 (pc' := 3) (ls' := [(0, .inr (.inr (.ref 88))), (1, .inl (a1))]) (st' := [.inl (44), .inr (.inr (.ref 88))]) (σ' := σ) rfl ?_
  obtain ⟨c1, w⟩ := w
  refine wk_callp tt_316 rfl rfl rfl rfl rfl tt_268 rfl (by decide) (w_isSignNow z σ (44) (by decide) c1) ?_
  refine wk_if tt_316 (tgt := 41) rfl rfl (sg_Rz (vz_isSignNow ..)) (fun (h2 : (v_isSignNow σ (44)) = 0) => ?_) (fun (h2 : ¬ (v_isSignNow σ (44)) = 0) => ?_)
  ·
    have w := w.1 h2
    refine wk_b tt_316 2 (pc' := 44) (ls' := [(0, .inr (.inr (.ref 88))), (1, .inl (a1))]) (st' := [.inl (124), .inr (.inr (.ref 88))]) (σ' := σ) rfl ?_
    obtain ⟨c3, w⟩ := w
    refine wk_callp tt_316 rfl rfl rfl rfl rfl tt_268 rfl (by decide) (w_isSignNow z σ (124) (by decide) c3) ?_
    refine wk_if tt_316 (tgt := 93) rfl rfl (sg_Rz (vz_isSignNow ..)) (fun (h4 : (v_isSignNow σ (124)) = 0) => ?_) (fun (h4 : ¬ (v_isSignNow σ (124)) = 0) => ?_)
    ·
      have w := w.1 h4
      refine wk_b tt_316 3 (pc' := 97) (ls' := [(0, .inr (.inr (.ref 88))), (1, .inl (a1))]) (st' := [.inl (a1), .inl (11), .inr (.inr (.ref 88))]) (σ' := σ) rfl ?_
      refine wk_call tt_316 rfl rfl rfl rfl rfl tt_305 rfl (by decide) (w_pile z σ (11) (a1) _ (by decide) ra1 w) (fun u10 σ6 hq8 => ?_)
      obtain ⟨rfl, hF7, w⟩ := hq8
      have w := w hF7
      refine wk_b tt_316 3 (pc' := 104) (ls' := [(0, .inr (.inr (.ref 88))), (1, .inl (a1))]) (st' := [.inl (0), .inl (12), .inr (.inr (.ref 88))]) (σ' := σ6) rfl ?_
      refine wk_call tt_316 rfl rfl rfl rfl rfl tt_305 rfl (by decide) (w_pile z σ6 (12) (0) _ (by decide) (by decide) w) (fun u16 σ12 hq14 => ?_)
      obtain ⟨rfl, hF13, w⟩ := hq14
      have w := w hF13
      refine wk_b tt_316 3 (pc' := 112) (ls' := [(0, .inr (.inr (.ref 88))), (1, .inl (a1))]) (st' := [.inl (125), .inl (13), .inr (.inr (.ref 88))]) (σ' := σ12) rfl ?_
      refine wk_call tt_316 rfl rfl rfl rfl rfl tt_305 rfl (by decide) (w_pile z σ12 (13) (125) _ (by decide) (by decide) w) (fun u22 σ18 hq20 => ?_)
      obtain ⟨rfl, hF19, w⟩ := hq20
      have w := w hF19
      exact wk_rV tt_316 rfl rfl ⟨rfl, (sg_F_t (sg_F_t (sg_F_t (sg_F_r [110, 111, 8088, 30088, 31088, 32088] σ) (sg_F_m (L := [110, 111, 8088, 30088, 31088, 32088]) hF7 rfl)) (sg_F_m (L := [110, 111, 8088, 30088, 31088, 32088]) hF13 rfl)) (sg_F_m (L := [110, 111, 8088, 30088, 31088, 32088]) hF19 rfl)), w⟩
    ·
      have w := w.2 h4
      refine wk_b tt_316 2 (pc' := 52) (ls' := [(0, .inr (.inr (.ref 88))), (1, .inl (a1))]) (st' := [.inl (1), .inr (.inr (.ref 88))]) (σ' := σ) rfl ?_
      refine wk_call tt_316 rfl rfl rfl rfl rfl tt_334 rfl (by decide) (w_want z σ (1) _ (by decide) w) (fun u28 σ24 hq26 => ?_)
      obtain ⟨rfl, hF25, w⟩ := hq26
      have w := w hF25
      refine wk_b tt_316 3 (pc' := 59) (ls' := [(0, .inr (.inr (.ref 88))), (1, .inl (a1))]) (st' := [.inl (a1), .inl (11), .inr (.inr (.ref 88))]) (σ' := σ24) rfl ?_
      refine wk_call tt_316 rfl rfl rfl rfl rfl tt_305 rfl (by decide) (w_pile z σ24 (11) (a1) _ (by decide) ra1 w) (fun u34 σ30 hq32 => ?_)
      obtain ⟨rfl, hF31, w⟩ := hq32
      have w := w hF31
      refine wk_b tt_316 3 (pc' := 66) (ls' := [(0, .inr (.inr (.ref 88))), (1, .inl (a1))]) (st' := [.inl (0), .inl (12), .inr (.inr (.ref 88))]) (σ' := σ30) rfl ?_
      refine wk_call tt_316 rfl rfl rfl rfl rfl tt_305 rfl (by decide) (w_pile z σ30 (12) (0) _ (by decide) (by decide) w) (fun u40 σ36 hq38 => ?_)
      obtain ⟨rfl, hF37, w⟩ := hq38
      have w := w hF37
      refine wk_b tt_316 3 (pc' := 74) (ls' := [(0, .inr (.inr (.ref 88))), (1, .inl (a1))]) (st' := [.inl (125), .inl (13), .inr (.inr (.ref 88))]) (σ' := σ36) rfl ?_
      refine wk_call tt_316 rfl rfl rfl rfl rfl tt_305 rfl (by decide) (w_pile z σ36 (13) (125) _ (by decide) (by decide) w) (fun u46 σ42 hq44 => ?_)
      obtain ⟨rfl, hF43, w⟩ := hq44
      have w := w hF43
      refine wk_b tt_316 3 (pc' := 81) (ls' := [(0, .inr (.inr (.ref 88))), (1, .inl (a1))]) (st' := [.inl (a1), .inl (10), .inr (.inr (.ref 88))]) (σ' := σ42) rfl ?_
      refine wk_call tt_316 rfl rfl rfl rfl rfl tt_305 rfl (by decide) (w_pile z σ42 (10) (a1) _ (by decide) ra1 w) (fun u52 σ48 hq50 => ?_)
      obtain ⟨rfl, hF49, w⟩ := hq50
      have w := w hF49
      refine wk_b tt_316 3 (pc' := 87) (ls' := [(0, .inr (.inr (.ref 88))), (1, .inl (a1))]) (st' := [.inl (0), .inl (0), .inr (.inr (.ref 88))]) (σ' := σ48) rfl ?_
      refine wk_call tt_316 rfl rfl rfl rfl rfl tt_305 rfl (by decide) (w_pile z σ48 (0) (0) _ (by decide) (by decide) w) (fun u58 σ54 hq56 => ?_)
      obtain ⟨rfl, hF55, w⟩ := hq56
      have w := w hF55
      refine wk_b tt_316 1 (pc' := 115) (ls' := [(0, .inr (.inr (.ref 88))), (1, .inl (a1))]) (st' := []) (σ' := σ54) rfl ?_
      exact wk_rV tt_316 rfl rfl ⟨rfl, (sg_F_t (sg_F_t (sg_F_t (sg_F_t (sg_F_t (sg_F_t (sg_F_r [110, 111, 8088, 30088, 31088, 32088] σ) (sg_F_m (L := [110, 111, 8088, 30088, 31088, 32088]) hF25 rfl)) (sg_F_m (L := [110, 111, 8088, 30088, 31088, 32088]) hF31 rfl)) (sg_F_m (L := [110, 111, 8088, 30088, 31088, 32088]) hF37 rfl)) (sg_F_m (L := [110, 111, 8088, 30088, 31088, 32088]) hF43 rfl)) (sg_F_m (L := [110, 111, 8088, 30088, 31088, 32088]) hF49 rfl)) (sg_F_m (L := [110, 111, 8088, 30088, 31088, 32088]) hF55 rfl)), w⟩
  ·
    have w := w.2 h2
    refine wk_b tt_316 3 (pc' := 14) (ls' := [(0, .inr (.inr (.ref 88))), (1, .inl (a1))]) (st' := [.inl (a1), .inr (.inr (.ref 96))]) (σ' := σ) rfl ?_
    obtain ⟨c59, w⟩ := w
    refine wk_ia tt_316 rfl rfl c59.1 c59.2 ra1 ?_
    refine wk_b tt_316 4 (pc' := 21) (ls' := [(0, .inr (.inr (.ref 88))), (1, .inl (a1))]) (st' := [.inl (a1), .inr (.inr (.ref 98)), .inl (1), .inl ((sg_g σ 96 (a1)))]) (σ' := σ) rfl ?_
    refine wk_ia tt_316 rfl rfl c59.1 c59.2 ra1 ?_
    obtain ⟨c60, w⟩ := w
    refine wk_b tt_316 1 (pc' := 23) (ls' := [(0, .inr (.inr (.ref 88))), (1, .inl (a1))]) (st' := [.inl ((1 + (sg_g σ 98 (a1)))), .inl ((sg_g σ 96 (a1)))]) (σ' := σ) rfl ?_
    refine wk_if2 tt_316 (tgt := 41) rfl rfl (sg_Rg _ _ _) c60 (fun (h61 : ¬ (sg_g σ 96 (a1)) = (1 + (sg_g σ 98 (a1)))) => ?_) (fun (h61 : (sg_g σ 96 (a1)) = (1 + (sg_g σ 98 (a1)))) => ?_)
    ·
      have w := w.1 h61
      refine wk_b tt_316 2 (pc' := 44) (ls' := [(0, .inr (.inr (.ref 88))), (1, .inl (a1))]) (st' := [.inl (124), .inr (.inr (.ref 88))]) (σ' := σ) rfl ?_
      obtain ⟨c62, w⟩ := w
      refine wk_callp tt_316 rfl rfl rfl rfl rfl tt_268 rfl (by decide) (w_isSignNow z σ (124) (by decide) c62) ?_
      refine wk_if tt_316 (tgt := 93) rfl rfl (sg_Rz (vz_isSignNow ..)) (fun (h63 : (v_isSignNow σ (124)) = 0) => ?_) (fun (h63 : ¬ (v_isSignNow σ (124)) = 0) => ?_)
      ·
        have w := w.1 h63
        refine wk_b tt_316 3 (pc' := 97) (ls' := [(0, .inr (.inr (.ref 88))), (1, .inl (a1))]) (st' := [.inl (a1), .inl (11), .inr (.inr (.ref 88))]) (σ' := σ) rfl ?_
        refine wk_call tt_316 rfl rfl rfl rfl rfl tt_305 rfl (by decide) (w_pile z σ (11) (a1) _ (by decide) ra1 w) (fun u69 σ65 hq67 => ?_)
        obtain ⟨rfl, hF66, w⟩ := hq67
        have w := w hF66
        refine wk_b tt_316 3 (pc' := 104) (ls' := [(0, .inr (.inr (.ref 88))), (1, .inl (a1))]) (st' := [.inl (0), .inl (12), .inr (.inr (.ref 88))]) (σ' := σ65) rfl ?_
        refine wk_call tt_316 rfl rfl rfl rfl rfl tt_305 rfl (by decide) (w_pile z σ65 (12) (0) _ (by decide) (by decide) w) (fun u75 σ71 hq73 => ?_)
        obtain ⟨rfl, hF72, w⟩ := hq73
        have w := w hF72
        refine wk_b tt_316 3 (pc' := 112) (ls' := [(0, .inr (.inr (.ref 88))), (1, .inl (a1))]) (st' := [.inl (125), .inl (13), .inr (.inr (.ref 88))]) (σ' := σ71) rfl ?_
        refine wk_call tt_316 rfl rfl rfl rfl rfl tt_305 rfl (by decide) (w_pile z σ71 (13) (125) _ (by decide) (by decide) w) (fun u81 σ77 hq79 => ?_)
        obtain ⟨rfl, hF78, w⟩ := hq79
        have w := w hF78
        exact wk_rV tt_316 rfl rfl ⟨rfl, (sg_F_t (sg_F_t (sg_F_t (sg_F_r [110, 111, 8088, 30088, 31088, 32088] σ) (sg_F_m (L := [110, 111, 8088, 30088, 31088, 32088]) hF66 rfl)) (sg_F_m (L := [110, 111, 8088, 30088, 31088, 32088]) hF72 rfl)) (sg_F_m (L := [110, 111, 8088, 30088, 31088, 32088]) hF78 rfl)), w⟩
      ·
        have w := w.2 h63
        refine wk_b tt_316 2 (pc' := 52) (ls' := [(0, .inr (.inr (.ref 88))), (1, .inl (a1))]) (st' := [.inl (1), .inr (.inr (.ref 88))]) (σ' := σ) rfl ?_
        refine wk_call tt_316 rfl rfl rfl rfl rfl tt_334 rfl (by decide) (w_want z σ (1) _ (by decide) w) (fun u87 σ83 hq85 => ?_)
        obtain ⟨rfl, hF84, w⟩ := hq85
        have w := w hF84
        refine wk_b tt_316 3 (pc' := 59) (ls' := [(0, .inr (.inr (.ref 88))), (1, .inl (a1))]) (st' := [.inl (a1), .inl (11), .inr (.inr (.ref 88))]) (σ' := σ83) rfl ?_
        refine wk_call tt_316 rfl rfl rfl rfl rfl tt_305 rfl (by decide) (w_pile z σ83 (11) (a1) _ (by decide) ra1 w) (fun u93 σ89 hq91 => ?_)
        obtain ⟨rfl, hF90, w⟩ := hq91
        have w := w hF90
        refine wk_b tt_316 3 (pc' := 66) (ls' := [(0, .inr (.inr (.ref 88))), (1, .inl (a1))]) (st' := [.inl (0), .inl (12), .inr (.inr (.ref 88))]) (σ' := σ89) rfl ?_
        refine wk_call tt_316 rfl rfl rfl rfl rfl tt_305 rfl (by decide) (w_pile z σ89 (12) (0) _ (by decide) (by decide) w) (fun u99 σ95 hq97 => ?_)
        obtain ⟨rfl, hF96, w⟩ := hq97
        have w := w hF96
        refine wk_b tt_316 3 (pc' := 74) (ls' := [(0, .inr (.inr (.ref 88))), (1, .inl (a1))]) (st' := [.inl (125), .inl (13), .inr (.inr (.ref 88))]) (σ' := σ95) rfl ?_
        refine wk_call tt_316 rfl rfl rfl rfl rfl tt_305 rfl (by decide) (w_pile z σ95 (13) (125) _ (by decide) (by decide) w) (fun u105 σ101 hq103 => ?_)
        obtain ⟨rfl, hF102, w⟩ := hq103
        have w := w hF102
        refine wk_b tt_316 3 (pc' := 81) (ls' := [(0, .inr (.inr (.ref 88))), (1, .inl (a1))]) (st' := [.inl (a1), .inl (10), .inr (.inr (.ref 88))]) (σ' := σ101) rfl ?_
        refine wk_call tt_316 rfl rfl rfl rfl rfl tt_305 rfl (by decide) (w_pile z σ101 (10) (a1) _ (by decide) ra1 w) (fun u111 σ107 hq109 => ?_)
        obtain ⟨rfl, hF108, w⟩ := hq109
        have w := w hF108
        refine wk_b tt_316 3 (pc' := 87) (ls' := [(0, .inr (.inr (.ref 88))), (1, .inl (a1))]) (st' := [.inl (0), .inl (0), .inr (.inr (.ref 88))]) (σ' := σ107) rfl ?_
        refine wk_call tt_316 rfl rfl rfl rfl rfl tt_305 rfl (by decide) (w_pile z σ107 (0) (0) _ (by decide) (by decide) w) (fun u117 σ113 hq115 => ?_)
        obtain ⟨rfl, hF114, w⟩ := hq115
        have w := w hF114
        refine wk_b tt_316 1 (pc' := 115) (ls' := [(0, .inr (.inr (.ref 88))), (1, .inl (a1))]) (st' := []) (σ' := σ113) rfl ?_
        exact wk_rV tt_316 rfl rfl ⟨rfl, (sg_F_t (sg_F_t (sg_F_t (sg_F_t (sg_F_t (sg_F_t (sg_F_r [110, 111, 8088, 30088, 31088, 32088] σ) (sg_F_m (L := [110, 111, 8088, 30088, 31088, 32088]) hF84 rfl)) (sg_F_m (L := [110, 111, 8088, 30088, 31088, 32088]) hF90 rfl)) (sg_F_m (L := [110, 111, 8088, 30088, 31088, 32088]) hF96 rfl)) (sg_F_m (L := [110, 111, 8088, 30088, 31088, 32088]) hF102 rfl)) (sg_F_m (L := [110, 111, 8088, 30088, 31088, 32088]) hF108 rfl)) (sg_F_m (L := [110, 111, 8088, 30088, 31088, 32088]) hF114 rfl)), w⟩
    ·
      have w := w.2 h61
      refine wk_b tt_316 2 (pc' := 28) (ls' := [(0, .inr (.inr (.ref 88))), (1, .inl (a1))]) (st' := [.inl (1), .inr (.inr (.ref 88))]) (σ' := σ) rfl ?_
      refine wk_call tt_316 rfl rfl rfl rfl rfl tt_334 rfl (by decide) (w_want z σ (1) _ (by decide) w) (fun u123 σ119 hq121 => ?_)
      obtain ⟨rfl, hF120, w⟩ := hq121
      have w := w hF120
      refine wk_b tt_316 3 (pc' := 35) (ls' := [(0, .inr (.inr (.ref 88))), (1, .inl (a1))]) (st' := [.inl (a1), .inl (16), .inr (.inr (.ref 88))]) (σ' := σ119) rfl ?_
      refine wk_call tt_316 rfl rfl rfl rfl rfl tt_305 rfl (by decide) (w_pile z σ119 (16) (a1) _ (by decide) ra1 w) (fun u129 σ125 hq127 => ?_)
      obtain ⟨rfl, hF126, w⟩ := hq127
      have w := w hF126
      refine wk_b tt_316 1 (pc' := 115) (ls' := [(0, .inr (.inr (.ref 88))), (1, .inl (a1))]) (st' := []) (σ' := σ125) rfl ?_
      exact wk_rV tt_316 rfl rfl ⟨rfl, (sg_F_t (sg_F_t (sg_F_r [110, 111, 8088, 30088, 31088, 32088] σ) (sg_F_m (L := [110, 111, 8088, 30088, 31088, 32088]) hF120 rfl)) (sg_F_m (L := [110, 111, 8088, 30088, 31088, 32088]) hF126 rfl)), w⟩
