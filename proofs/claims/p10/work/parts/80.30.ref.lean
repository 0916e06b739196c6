/-! Conditions of the reference's methods, by program (30). -/
-- NestedVectorsModel.popped
def V_popped (σ : sg_S) (Q : Int → sg_S → Prop) : Prop := sg_R ((sg_g σ 88 34) - 1) ∧ ∀ σ2, σ2 = (sg_w σ 88 34 (((sg_g σ 88 34) - 1))) → (0 ≤ ((sg_g σ 88 34) - 1) ∧ ((sg_g σ 88 34) - 1) < 400) ∧ Q ((sg_g σ 112 (((sg_g σ 88 34) - 1)))) σ2
set_option maxHeartbeats 4000000 in
set_option maxRecDepth 8000 in
theorem w_popped (z : Value) (σ : sg_S) (Q : Int → sg_S → Prop)  (w : V_popped σ  Q) : wx z 0 306 0 [(0, .inr (.inr (.ref 88)))] [] σ (fun v σ' => ∃ q, v = some (.inl q) ∧ sg_R q ∧ sg_F [35088] σ σ' ∧ Q q σ') := by
  unfold V_popped at w
  obtain ⟨c1, w⟩ := w
  refine wk_b tt_306 6 (pc' := 10) (ls' := [(0, .inr (.inr (.ref 88)))]) (st' := []) (σ' := (sg_w σ 88 34 (((sg_g σ 88 34) - 1)))) rfl ?_
  generalize hs3 : (sg_w σ 88 34 (((sg_g σ 88 34) - 1))) = σ2
  have w := w σ2 hs3.symm
  have hF4 : sg_F [35088] σ σ2 := by rw [← hs3]; exact sg_F_w (sg_F_r _ _) rfl _
  refine wk_b tt_306 4 (pc' := 18) (ls' := [(0, .inr (.inr (.ref 88)))]) (st' := [.inl ((sg_g σ2 88 34)), .inr (.inr (.ref 112))]) (σ' := σ2) rfl ?_
  rw [show (sg_g σ2 88 34) = ((sg_g σ 88 34) - 1) from by rw [(show sg_g σ2 88 34 = ((sg_g σ 88 34) - 1) from by rw [← hs3]; exact sg_gw_e _ _ _ _ c1)]]
  obtain ⟨c5, w⟩ := w
  refine wk_ia tt_306 rfl rfl c5.1 c5.2 c1 ?_
  rw [show (sg_g σ2 112 (((sg_g σ 88 34) - 1))) = (sg_g σ 112 (((sg_g σ 88 34) - 1))) from by rw [sg_F_ga hF4 rfl]]
  exact wk_rI tt_306 rfl rfl ⟨_, rfl, (sg_Rg _ _ _), (sg_F_t (sg_F_r [35088] σ) (sg_F_m (L := [35088]) hF4 rfl)), w⟩
-- NestedVectorsModel.kid
def V_kid (σ : sg_S) (a1 : Int) (a2 : Int) (Q : sg_S → Prop) : Prop := sg_R (200 * a1) ∧ (0 ≤ a1 ∧ a1 < 210) ∧ sg_R ((200 * a1) + (sg_g σ 96 (a1))) ∧ (0 ≤ ((200 * a1) + (sg_g σ 96 (a1))) ∧ ((200 * a1) + (sg_g σ 96 (a1))) < 42000) ∧ ∀ σ5, σ5 = (sg_w σ 97 (((200 * a1) + (sg_g σ 96 (a1)))) (a2)) → sg_R ((sg_g σ 96 (a1)) + 1) ∧ ∀ σ9, σ9 = (sg_w σ5 96 (a1) (((sg_g σ 96 (a1)) + 1))) → Q σ9
set_option maxHeartbeats 4000000 in
set_option maxRecDepth 8000 in
theorem w_kid (z : Value) (σ : sg_S) (a1 : Int) (a2 : Int) (Q : sg_S → Prop) (ra1 : sg_R a1) (ra2 : sg_R a2) (w : V_kid σ a1 a2 Q) : wx z 0 272 0 [(0, .inr (.inr (.ref 88))), (1, .inl (a1)), (2, .inl (a2))] [] σ (fun v σ' => v = none ∧ sg_F [96, 97] σ σ' ∧ Q σ') := by
  unfold V_kid at w
  obtain ⟨c1, w⟩ := w
  refine wk_b tt_272 8 (pc' := 14) (ls' := [(0, .inr (.inr (.ref 88))), (1, .inl (a1)), (2, .inl (a2))]) (st' := [.inl (a1), .inr (.inr (.ref 96)), .inl ((200 * a1)), .inr (.inr (.ref 97))]) (σ' := σ) rfl ?_
  obtain ⟨c2, w⟩ := w
  refine wk_ia tt_272 rfl rfl c2.1 c2.2 ra1 ?_
  obtain ⟨c3, w⟩ := w
  refine wk_b tt_272 2 (pc' := 17) (ls' := [(0, .inr (.inr (.ref 88))), (1, .inl (a1)), (2, .inl (a2))]) (st' := [.inl (a2), .inl (((200 * a1) + (sg_g σ 96 (a1)))), .inr (.inr (.ref 97))]) (σ' := σ) rfl ?_
  obtain ⟨c4, w⟩ := w
  refine wk_is tt_272 rfl rfl c4.1 c4.2 c3 ?_
  generalize hs6 : (sg_w σ 97 (((200 * a1) + (sg_g σ 96 (a1)))) (a2)) = σ5
  have w := w σ5 hs6.symm
  have hF7 : sg_F [97] σ σ5 := by rw [← hs6]; exact sg_F_w (sg_F_r _ _) rfl _
  refine wk_b tt_272 4 (pc' := 24) (ls' := [(0, .inr (.inr (.ref 88))), (1, .inl (a1)), (2, .inl (a2))]) (st' := [.inl (a1), .inr (.inr (.ref 96)), .inl (a1), .inr (.inr (.ref 96))]) (σ' := σ5) rfl ?_
  refine wk_ia tt_272 rfl rfl c2.1 c2.2 ra1 ?_
  rw [show (sg_g σ5 96 (a1)) = (sg_g σ 96 (a1)) from by rw [sg_F_ga hF7 rfl]]
  obtain ⟨c8, w⟩ := w
  refine wk_b tt_272 2 (pc' := 27) (ls' := [(0, .inr (.inr (.ref 88))), (1, .inl (a1)), (2, .inl (a2))]) (st' := [.inl (((sg_g σ 96 (a1)) + 1)), .inl (a1), .inr (.inr (.ref 96))]) (σ' := σ5) rfl ?_
  refine wk_is tt_272 rfl rfl c2.1 c2.2 ra1 ?_
  generalize hs10 : (sg_w σ5 96 (a1) (((sg_g σ 96 (a1)) + 1))) = σ9
  have w := w σ9 hs10.symm
  have hF11 : sg_F [96] σ5 σ9 := by rw [← hs10]; exact sg_F_w (sg_F_r _ _) rfl _
  exact wk_rV tt_272 rfl rfl ⟨rfl, (sg_F_t (sg_F_t (sg_F_r [96, 97] σ) (sg_F_m (L := [96, 97]) hF7 rfl)) (sg_F_m (L := [96, 97]) hF11 rfl)), w⟩
-- NestedVectorsModel.readBetween
def V_readBetween (σ : sg_S) (a1 : Int) (a2 : Int) (a3 : Int) (Q : sg_S → Prop) : Prop := V_newNode σ (a1) (fun q1 σ2 => sg_R q1 → sg_F [93, 94, 95, 96, 98, 9088, 30088, 31088] σ σ2 → V_popped σ2  (fun q7 σ8 => sg_R q7 → sg_F [35088] σ2 σ8 → V_kid σ8 (q1) (q7) (fun σ14 => sg_F [96, 97] σ8 σ14 → V_want σ14 (1) (fun σ20 => sg_F [8088, 30088, 31088] σ14 σ20 → (∃ P27 : sg_S → Prop, ((a2 < 0 → P27 σ20) ∧ (0 ≤ a2 → V_pile σ20 (a2) (0) (fun σ50 => sg_F [110, 111, 32088] σ20 σ50 → P27 σ50))) ∧ (∀ (σ28 : sg_S), sg_F [110, 111, 32088] σ20 σ28 → P27 σ28 → V_pile σ28 (11) (q1) (fun σ32 => sg_F [110, 111, 32088] σ28 σ32 → V_pile σ32 (10) (q1) (fun σ38 => sg_F [110, 111, 32088] σ32 σ38 → V_pile σ38 (a3) (0) (fun σ44 => sg_F [110, 111, 32088] σ38 σ44 → Q σ44)))))))))
set_option maxHeartbeats 4000000 in
set_option maxRecDepth 8000 in
theorem w_readBetween (z : Value) (σ : sg_S) (a1 : Int) (a2 : Int) (a3 : Int) (Q : sg_S → Prop) (ra1 : sg_R a1) (ra2 : sg_R a2) (ra3 : sg_R a3) (w : V_readBetween σ a1 a2 a3 Q) : wx z 2 312 0 [(0, .inr (.inr (.ref 88))), (1, .inl (a1)), (2, .inl (a2)), (3, .inl (a3))] [] σ (fun v σ' => v = none ∧ sg_F [93, 94, 95, 96, 97, 98, 110, 111, 8088, 9088, 30088, 31088, 32088, 35088] σ σ' ∧ Q σ') := by
  unfold V_readBetween at w
  refine wk_b tt_312 2 (pc' := 2) (ls' := [(0, .inr (.inr (.ref 88))), (1, .inl (a1)), (2, .inl (a2)), (3, .inl (a3))]) (st' := [.inl (a1), .inr (.inr (.ref 88))]) (σ' := σ) rfl ?_
  refine wk_call tt_312 rfl rfl rfl rfl rfl tt_294 rfl (by decide) (w_newNode z σ (a1) _ ra1 w) (fun u6 σ2 hq4 => ?_)
  obtain ⟨q1, rfl, r5, hF3, w⟩ := hq4
  have w := w r5 hF3
  refine wk_b tt_312 4 (pc' := 11) (ls' := [(4, .inl (q1)), (0, .inr (.inr (.ref 88))), (1, .inl (a1)), (2, .inl (a2)), (3, .inl (a3))]) (st' := [.inr (.inr (.ref 88)), .inl (q1), .inr (.inr (.ref 88))]) (σ' := σ2) rfl ?_
  refine wk_call tt_312 rfl rfl rfl rfl rfl tt_306 rfl (by decide) (w_popped z σ2  _  w) (fun u12 σ8 hq10 => ?_)
  obtain ⟨q7, rfl, r11, hF9, w⟩ := hq10
  have w := w r11 hF9
  refine wk_call tt_312 rfl rfl rfl rfl rfl tt_272 rfl (by decide) (w_kid z σ8 (q1) (q7) _ r5 r11 w) (fun u18 σ14 hq16 => ?_)
  obtain ⟨rfl, hF15, w⟩ := hq16
  have w := w hF15
  refine wk_b tt_312 2 (pc' := 19) (ls' := [(4, .inl (q1)), (0, .inr (.inr (.ref 88))), (1, .inl (a1)), (2, .inl (a2)), (3, .inl (a3))]) (st' := [.inl (1), .inr (.inr (.ref 88))]) (σ' := σ14) rfl ?_
  refine wk_call tt_312 rfl rfl rfl rfl rfl tt_334 rfl (by decide) (w_want z σ14 (1) _ (by decide) w) (fun u24 σ20 hq22 => ?_)
  obtain ⟨rfl, hF21, w⟩ := hq22
  have w := w hF21
  refine wk_b tt_312 1 (pc' := 23) (ls' := [(4, .inl (q1)), (0, .inr (.inr (.ref 88))), (1, .inl (a1)), (2, .inl (a2)), (3, .inl (a3))]) (st' := [.inl (a2)]) (σ' := σ20) rfl ?_
  obtain ⟨P27, w, w30⟩ := w
  have jn26 : ∀ (σ28 : sg_S), sg_F [110, 111, 32088] σ20 σ28 → P27 σ28 → wx z 2 312 32 [(0, .inr (.inr (.ref 88))), (3, .inl (a3)), (4, .inl (q1))] [] σ28 (fun v σ' => v = none ∧ sg_F [93, 94, 95, 96, 97, 98, 110, 111, 8088, 9088, 30088, 31088, 32088, 35088] σ σ' ∧ Q σ') := by
    intro σ28 hF29 w
    have w := w30 σ28 hF29 w
    refine wk_b tt_312 3 (pc' := 37) (ls' := [(0, .inr (.inr (.ref 88))), (3, .inl (a3)), (4, .inl (q1))]) (st' := [.inl (q1), .inl (11), .inr (.inr (.ref 88))]) (σ' := σ28) rfl ?_
    refine wk_call tt_312 rfl rfl rfl rfl rfl tt_305 rfl (by decide) (w_pile z σ28 (11) (q1) _ (by decide) r5 w) (fun u36 σ32 hq34 => ?_)
    obtain ⟨rfl, hF33, w⟩ := hq34
    have w := w hF33
    refine wk_b tt_312 3 (pc' := 45) (ls' := [(0, .inr (.inr (.ref 88))), (3, .inl (a3)), (4, .inl (q1))]) (st' := [.inl (q1), .inl (10), .inr (.inr (.ref 88))]) (σ' := σ32) rfl ?_
    refine wk_call tt_312 rfl rfl rfl rfl rfl tt_305 rfl (by decide) (w_pile z σ32 (10) (q1) _ (by decide) r5 w) (fun u42 σ38 hq40 => ?_)
    obtain ⟨rfl, hF39, w⟩ := hq40
    have w := w hF39
    refine wk_b tt_312 3 (pc' := 51) (ls' := [(0, .inr (.inr (.ref 88))), (3, .inl (a3)), (4, .inl (q1))]) (st' := [.inl (0), .inl (a3), .inr (.inr (.ref 88))]) (σ' := σ38) rfl ?_
    refine wk_call tt_312 rfl rfl rfl rfl rfl tt_305 rfl (by decide) (w_pile z σ38 (a3) (0) _ ra3 (by decide) w) (fun u48 σ44 hq46 => ?_)
    obtain ⟨rfl, hF45, w⟩ := hq46
    have w := w hF45
    exact wk_rV tt_312 rfl rfl ⟨rfl, (sg_F_t (sg_F_t (sg_F_t (sg_F_t (sg_F_t (sg_F_t (sg_F_t (sg_F_t (sg_F_r [93, 94, 95, 96, 97, 98, 110, 111, 8088, 9088, 30088, 31088, 32088, 35088] σ) (sg_F_m (L := [93, 94, 95, 96, 97, 98, 110, 111, 8088, 9088, 30088, 31088, 32088, 35088]) hF3 rfl)) (sg_F_m (L := [93, 94, 95, 96, 97, 98, 110, 111, 8088, 9088, 30088, 31088, 32088, 35088]) hF9 rfl)) (sg_F_m (L := [93, 94, 95, 96, 97, 98, 110, 111, 8088, 9088, 30088, 31088, 32088, 35088]) hF15 rfl)) (sg_F_m (L := [93, 94, 95, 96, 97, 98, 110, 111, 8088, 9088, 30088, 31088, 32088, 35088]) hF21 rfl)) (sg_F_m (L := [93, 94, 95, 96, 97, 98, 110, 111, 8088, 9088, 30088, 31088, 32088, 35088]) hF29 rfl)) (sg_F_m (L := [93, 94, 95, 96, 97, 98, 110, 111, 8088, 9088, 30088, 31088, 32088, 35088]) hF33 rfl)) (sg_F_m (L := [93, 94, 95, 96, 97, 98, 110, 111, 8088, 9088, 30088, 31088, 32088, 35088]) hF39 rfl)) (sg_F_m (L := [93, 94, 95, 96, 97, 98, 110, 111, 8088, 9088, 30088, 31088, 32088, 35088]) hF45 rfl)), w⟩
  refine wk_if tt_312 (tgt := 32) rfl rfl ra2 (fun (h25 : a2 < 0) => ?_) (fun (h25 : 0 ≤ a2) => ?_)
  ·
    have w := w.1 h25
    exact wk_ls [(0, .inr (.inr (.ref 88))), (3, .inl (a3)), (4, .inl (q1))] rfl ⟨rfl, rfl, rfl, trivial⟩ (jn26 σ20 (sg_F_r [110, 111, 32088] σ20) w)
  ·
    have w := w.2 h25
    refine wk_b tt_312 3 (pc' := 29) (ls' := [(4, .inl (q1)), (0, .inr (.inr (.ref 88))), (1, .inl (a1)), (2, .inl (a2)), (3, .inl (a3))]) (st' := [.inl (0), .inl (a2), .inr (.inr (.ref 88))]) (σ' := σ20) rfl ?_
    refine wk_call tt_312 rfl rfl rfl rfl rfl tt_305 rfl (by decide) (w_pile z σ20 (a2) (0) _ ra2 (by decide) w) (fun u54 σ50 hq52 => ?_)
    obtain ⟨rfl, hF51, w⟩ := hq52
    have w := w hF51
    exact wk_ls [(0, .inr (.inr (.ref 88))), (3, .inl (a3)), (4, .inl (q1))] rfl ⟨rfl, rfl, rfl, trivial⟩ (jn26 σ50 (sg_F_t (sg_F_r [110, 111, 32088] σ20) (sg_F_m (L := [110, 111, 32088]) hF51 rfl)) w)
-- NestedVectorsModel.goOn
def V_goOn_2 (σ : sg_S) (Q : sg_S → Prop) : Prop := p_isSignNow σ (60) ∧ ((¬ (v_isSignNow σ (60)) = 0 → p_isSignNow σ (60) ∧ ∀ v6 : Int, v6 = (if (v_isSignNow σ (60)) = 0 then (5 : Int) else (4 : Int)) → sg_R v6 → V_readBetween σ (v6) ((-1)) (3) (fun σ10 => sg_F [93, 94, 95, 96, 97, 98, 110, 111, 8088, 9088, 30088, 31088, 32088, 35088] σ σ10 → Q σ10)) ∧ ((v_isSignNow σ (60)) = 0 → p_isSignNow σ (61) ∧ (((v_isSignNow σ (61)) = 0 → Q σ) ∧ (¬ (v_isSignNow σ (61)) = 0 → p_isSignNow σ (60) ∧ ∀ v20 : Int, v20 = (if (v_isSignNow σ (60)) = 0 then (5 : Int) else (4 : Int)) → sg_R v20 → V_readBetween σ (v20) ((-1)) (3) (fun σ24 => sg_F [93, 94, 95, 96, 97, 98, 110, 111, 8088, 9088, 30088, 31088, 32088, 35088] σ σ24 → Q σ24)))))
set_option maxHeartbeats 4000000 in
set_option maxRecDepth 8000 in
theorem w_goOn_2 (z : Value) (σ : sg_S) (Q : sg_S → Prop)  (w : V_goOn_2 σ  Q) : wx z 3 253 106 [(0, .inr (.inr (.ref 88)))] [] σ (fun v σ' => v = none ∧ sg_F [93, 94, 95, 96, 97, 98, 110, 111, 8088, 9088, 30088, 31088, 32088, 35088] σ σ' ∧ Q σ') := by
  unfold V_goOn_2 at w
  refine wk_b tt_253 2 (pc' := 109) (ls' := [(0, .inr (.inr (.ref 88)))]) (st' := [.inl (60), .inr (.inr (.ref 88))]) (σ' := σ) rfl ?_
  obtain ⟨c1, w⟩ := w
  refine wk_callp tt_253 rfl rfl rfl rfl rfl tt_268 rfl (by decide) (w_isSignNow z σ (60) (by decide) c1) ?_
  refine wk_if tt_253 (tgt := 124) rfl rfl (sg_Rz (vz_isSignNow ..)) (fun (h2 : ¬ (v_isSignNow σ (60)) = 0) => ?_) (fun (h2 : (v_isSignNow σ (60)) = 0) => ?_)
  ·
    have w := w.1 h2
    refine wk_b tt_253 3 (pc' := 128) (ls' := [(0, .inr (.inr (.ref 88)))]) (st' := [.inl (60), .inr (.inr (.ref 88)), .inr (.inr (.ref 88))]) (σ' := σ) rfl ?_
    obtain ⟨c3, w⟩ := w
    refine wk_callp tt_253 rfl rfl rfl rfl rfl tt_268 rfl (by decide) (w_isSignNow z σ (60) (by decide) c3) ?_
    have jn5 : ∀ v6 : Int, v6 = (if (v_isSignNow σ (60)) = 0 then (5 : Int) else (4 : Int)) → sg_R v6 → wx z 3 253 139 [] [.inl (v6), .inr (.inr (.ref 88))] σ (fun v σ' => v = none ∧ sg_F [93, 94, 95, 96, 97, 98, 110, 111, 8088, 9088, 30088, 31088, 32088, 35088] σ σ' ∧ Q σ') := by
      intro v6 e8 r7
      have w := w v6 e8 r7
      refine wk_b tt_253 2 (pc' := 141) (ls' := []) (st' := [.inl (3), .inl ((-1)), .inl (v6), .inr (.inr (.ref 88))]) (σ' := σ) rfl ?_
      refine wk_call tt_253 rfl rfl rfl rfl rfl tt_312 rfl (by decide) (w_readBetween z σ (v6) ((-1)) (3) _ r7 (by decide) (by decide) w) (fun u14 σ10 hq12 => ?_)
      obtain ⟨rfl, hF11, w⟩ := hq12
      have w := w hF11
      refine wk_b tt_253 1 (pc' := 632) (ls' := []) (st' := []) (σ' := σ10) rfl ?_
      exact wk_rV tt_253 rfl rfl ⟨rfl, (sg_F_t (sg_F_r [93, 94, 95, 96, 97, 98, 110, 111, 8088, 9088, 30088, 31088, 32088, 35088] σ) (sg_F_m (L := [93, 94, 95, 96, 97, 98, 110, 111, 8088, 9088, 30088, 31088, 32088, 35088]) hF11 rfl)), w⟩
    refine wk_if tt_253 (tgt := 138) rfl rfl (sg_Rz (vz_isSignNow ..)) (fun (h4 : (v_isSignNow σ (60)) = 0) => ?_) (fun (h4 : ¬ (v_isSignNow σ (60)) = 0) => ?_)
    ·
      clear w
      refine wk_b tt_253 1 (pc' := 139) (ls' := [(0, .inr (.inr (.ref 88)))]) (st' := [.inl (5), .inr (.inr (.ref 88))]) (σ' := σ) rfl ?_
      exact wk_ls [] rfl trivial (jn5 (5) (by simp only [if_pos h4]) (by decide))
    ·
      clear w
      refine wk_b tt_253 2 (pc' := 139) (ls' := [(0, .inr (.inr (.ref 88)))]) (st' := [.inl (4), .inr (.inr (.ref 88))]) (σ' := σ) rfl ?_
      exact wk_ls [] rfl trivial (jn5 (4) (by simp only [if_neg (show ¬ ((v_isSignNow σ (60)) = 0) by omega)]) (by decide))
  ·
    have w := w.2 h2
    refine wk_b tt_253 2 (pc' := 118) (ls' := [(0, .inr (.inr (.ref 88)))]) (st' := [.inl (61), .inr (.inr (.ref 88))]) (σ' := σ) rfl ?_
    obtain ⟨c15, w⟩ := w
    refine wk_callp tt_253 rfl rfl rfl rfl rfl tt_268 rfl (by decide) (w_isSignNow z σ (61) (by decide) c15) ?_
    refine wk_if tt_253 (tgt := 632) rfl rfl (sg_Rz (vz_isSignNow ..)) (fun (h16 : (v_isSignNow σ (61)) = 0) => ?_) (fun (h16 : ¬ (v_isSignNow σ (61)) = 0) => ?_)
    ·
      have w := w.1 h16
      exact wk_rV tt_253 rfl rfl ⟨rfl, (sg_F_r [93, 94, 95, 96, 97, 98, 110, 111, 8088, 9088, 30088, 31088, 32088, 35088] σ), w⟩
    ·
      have w := w.2 h16
      refine wk_b tt_253 3 (pc' := 128) (ls' := [(0, .inr (.inr (.ref 88)))]) (st' := [.inl (60), .inr (.inr (.ref 88)), .inr (.inr (.ref 88))]) (σ' := σ) rfl ?_
      obtain ⟨c17, w⟩ := w
      refine wk_callp tt_253 rfl rfl rfl rfl rfl tt_268 rfl (by decide) (w_isSignNow z σ (60) (by decide) c17) ?_
      have jn19 : ∀ v20 : Int, v20 = (if (v_isSignNow σ (60)) = 0 then (5 : Int) else (4 : Int)) → sg_R v20 → wx z 3 253 139 [] [.inl (v20), .inr (.inr (.ref 88))] σ (fun v σ' => v = none ∧ sg_F [93, 94, 95, 96, 97, 98, 110, 111, 8088, 9088, 30088, 31088, 32088, 35088] σ σ' ∧ Q σ') := by
        intro v20 e22 r21
        have w := w v20 e22 r21
        refine wk_b tt_253 2 (pc' := 141) (ls' := []) (st' := [.inl (3), .inl ((-1)), .inl (v20), .inr (.inr (.ref 88))]) (σ' := σ) rfl ?_
        refine wk_call tt_253 rfl rfl rfl rfl rfl tt_312 rfl (by decide) (w_readBetween z σ (v20) ((-1)) (3) _ r21 (by decide) (by decide) w) (fun u28 σ24 hq26 => ?_)
        obtain ⟨rfl, hF25, w⟩ := hq26
        have w := w hF25
        refine wk_b tt_253 1 (pc' := 632) (ls' := []) (st' := []) (σ' := σ24) rfl ?_
        exact wk_rV tt_253 rfl rfl ⟨rfl, (sg_F_t (sg_F_r [93, 94, 95, 96, 97, 98, 110, 111, 8088, 9088, 30088, 31088, 32088, 35088] σ) (sg_F_m (L := [93, 94, 95, 96, 97, 98, 110, 111, 8088, 9088, 30088, 31088, 32088, 35088]) hF25 rfl)), w⟩
      refine wk_if tt_253 (tgt := 138) rfl rfl (sg_Rz (vz_isSignNow ..)) (fun (h18 : (v_isSignNow σ (60)) = 0) => ?_) (fun (h18 : ¬ (v_isSignNow σ (60)) = 0) => ?_)
      ·
        clear w
        refine wk_b tt_253 1 (pc' := 139) (ls' := [(0, .inr (.inr (.ref 88)))]) (st' := [.inl (5), .inr (.inr (.ref 88))]) (σ' := σ) rfl ?_
        exact wk_ls [] rfl trivial (jn19 (5) (by simp only [if_pos h18]) (by decide))
      ·
        clear w
        refine wk_b tt_253 2 (pc' := 139) (ls' := [(0, .inr (.inr (.ref 88)))]) (st' := [.inl (4), .inr (.inr (.ref 88))]) (σ' := σ) rfl ?_
        exact wk_ls [] rfl trivial (jn19 (4) (by simp only [if_neg (show ¬ ((v_isSignNow σ (60)) = 0) by omega)]) (by decide))
-- NestedVectorsModel.goOn
def V_goOn_3 (σ : sg_S) (Q : sg_S → Prop) : Prop := V_pile σ (4) (0) (fun σ2 => sg_F [110, 111, 32088] σ σ2 → V_pile σ2 (5) (0) (fun σ8 => sg_F [110, 111, 32088] σ2 σ8 → Q σ8))
set_option maxHeartbeats 4000000 in
set_option maxRecDepth 8000 in
theorem w_goOn_3 (z : Value) (σ : sg_S) (Q : sg_S → Prop)  (w : V_goOn_3 σ  Q) : wx z 1 253 147 [(0, .inr (.inr (.ref 88)))] [] σ (fun v σ' => v = none ∧ sg_F [110, 111, 32088] σ σ' ∧ Q σ') := by
  unfold V_goOn_3 at w
  refine wk_b tt_253 3 (pc' := 150) (ls' := [(0, .inr (.inr (.ref 88)))]) (st' := [.inl (0), .inl (4), .inr (.inr (.ref 88))]) (σ' := σ) rfl ?_
  refine wk_call tt_253 rfl rfl rfl rfl rfl tt_305 rfl (by decide) (w_pile z σ (4) (0) _ (by decide) (by decide) w) (fun u6 σ2 hq4 => ?_)
  obtain ⟨rfl, hF3, w⟩ := hq4
  have w := w hF3
  refine wk_b tt_253 3 (pc' := 156) (ls' := [(0, .inr (.inr (.ref 88)))]) (st' := [.inl (0), .inl (5), .inr (.inr (.ref 88))]) (σ' := σ2) rfl ?_
  refine wk_call tt_253 rfl rfl rfl rfl rfl tt_305 rfl (by decide) (w_pile z σ2 (5) (0) _ (by decide) (by decide) w) (fun u12 σ8 hq10 => ?_)
  obtain ⟨rfl, hF9, w⟩ := hq10
  have w := w hF9
  refine wk_b tt_253 1 (pc' := 632) (ls' := [(0, .inr (.inr (.ref 88)))]) (st' := []) (σ' := σ8) rfl ?_
  exact wk_rV tt_253 rfl rfl ⟨rfl, (sg_F_t (sg_F_t (sg_F_r [110, 111, 32088] σ) (sg_F_m (L := [110, 111, 32088]) hF3 rfl)) (sg_F_m (L := [110, 111, 32088]) hF9 rfl)), w⟩
-- NestedVectorsModel.goOn
def V_goOn_4 (σ : sg_S) (Q : sg_S → Prop) : Prop := p_isSignNow σ (43) ∧ ((¬ (v_isSignNow σ (43)) = 0 → p_isSignNow σ (43) ∧ ∀ v6 : Int, v6 = (if (v_isSignNow σ (43)) = 0 then (7 : Int) else (6 : Int)) → sg_R v6 → V_readBetween σ (v6) (4) (5) (fun σ10 => sg_F [93, 94, 95, 96, 97, 98, 110, 111, 8088, 9088, 30088, 31088, 32088, 35088] σ σ10 → Q σ10)) ∧ ((v_isSignNow σ (43)) = 0 → p_isSignNow σ (45) ∧ (((v_isSignNow σ (45)) = 0 → Q σ) ∧ (¬ (v_isSignNow σ (45)) = 0 → p_isSignNow σ (43) ∧ ∀ v20 : Int, v20 = (if (v_isSignNow σ (43)) = 0 then (7 : Int) else (6 : Int)) → sg_R v20 → V_readBetween σ (v20) (4) (5) (fun σ24 => sg_F [93, 94, 95, 96, 97, 98, 110, 111, 8088, 9088, 30088, 31088, 32088, 35088] σ σ24 → Q σ24)))))
set_option maxHeartbeats 4000000 in
set_option maxRecDepth 8000 in
theorem w_goOn_4 (z : Value) (σ : sg_S) (Q : sg_S → Prop)  (w : V_goOn_4 σ  Q) : wx z 3 253 162 [(0, .inr (.inr (.ref 88)))] [] σ (fun v σ' => v = none ∧ sg_F [93, 94, 95, 96, 97, 98, 110, 111, 8088, 9088, 30088, 31088, 32088, 35088] σ σ' ∧ Q σ') := by
  unfold V_goOn_4 at w
  refine wk_b tt_253 2 (pc' := 165) (ls' := [(0, .inr (.inr (.ref 88)))]) (st' := [.inl (43), .inr (.inr (.ref 88))]) (σ' := σ) rfl ?_
  obtain ⟨c1, w⟩ := w
  refine wk_callp tt_253 rfl rfl rfl rfl rfl tt_268 rfl (by decide) (w_isSignNow z σ (43) (by decide) c1) ?_
  refine wk_if tt_253 (tgt := 180) rfl rfl (sg_Rz (vz_isSignNow ..)) (fun (h2 : ¬ (v_isSignNow σ (43)) = 0) => ?_) (fun (h2 : (v_isSignNow σ (43)) = 0) => ?_)
  ·
    have w := w.1 h2
    refine wk_b tt_253 3 (pc' := 184) (ls' := [(0, .inr (.inr (.ref 88)))]) (st' := [.inl (43), .inr (.inr (.ref 88)), .inr (.inr (.ref 88))]) (σ' := σ) rfl ?_
    obtain ⟨c3, w⟩ := w
    refine wk_callp tt_253 rfl rfl rfl rfl rfl tt_268 rfl (by decide) (w_isSignNow z σ (43) (by decide) c3) ?_
    have jn5 : ∀ v6 : Int, v6 = (if (v_isSignNow σ (43)) = 0 then (7 : Int) else (6 : Int)) → sg_R v6 → wx z 3 253 197 [] [.inl (v6), .inr (.inr (.ref 88))] σ (fun v σ' => v = none ∧ sg_F [93, 94, 95, 96, 97, 98, 110, 111, 8088, 9088, 30088, 31088, 32088, 35088] σ σ' ∧ Q σ') := by
      intro v6 e8 r7
      have w := w v6 e8 r7
      refine wk_b tt_253 2 (pc' := 199) (ls' := []) (st' := [.inl (5), .inl (4), .inl (v6), .inr (.inr (.ref 88))]) (σ' := σ) rfl ?_
      refine wk_call tt_253 rfl rfl rfl rfl rfl tt_312 rfl (by decide) (w_readBetween z σ (v6) (4) (5) _ r7 (by decide) (by decide) w) (fun u14 σ10 hq12 => ?_)
      obtain ⟨rfl, hF11, w⟩ := hq12
      have w := w hF11
      refine wk_b tt_253 1 (pc' := 632) (ls' := []) (st' := []) (σ' := σ10) rfl ?_
      exact wk_rV tt_253 rfl rfl ⟨rfl, (sg_F_t (sg_F_r [93, 94, 95, 96, 97, 98, 110, 111, 8088, 9088, 30088, 31088, 32088, 35088] σ) (sg_F_m (L := [93, 94, 95, 96, 97, 98, 110, 111, 8088, 9088, 30088, 31088, 32088, 35088]) hF11 rfl)), w⟩
    refine wk_if tt_253 (tgt := 195) rfl rfl (sg_Rz (vz_isSignNow ..)) (fun (h4 : (v_isSignNow σ (43)) = 0) => ?_) (fun (h4 : ¬ (v_isSignNow σ (43)) = 0) => ?_)
    ·
      clear w
      refine wk_b tt_253 1 (pc' := 197) (ls' := [(0, .inr (.inr (.ref 88)))]) (st' := [.inl (7), .inr (.inr (.ref 88))]) (σ' := σ) rfl ?_
      exact wk_ls [] rfl trivial (jn5 (7) (by simp only [if_pos h4]) (by decide))
    ·
      clear w
      refine wk_b tt_253 2 (pc' := 197) (ls' := [(0, .inr (.inr (.ref 88)))]) (st' := [.inl (6), .inr (.inr (.ref 88))]) (σ' := σ) rfl ?_
      exact wk_ls [] rfl trivial (jn5 (6) (by simp only [if_neg (show ¬ ((v_isSignNow σ (43)) = 0) by omega)]) (by decide))
  ·
    have w := w.2 h2
    refine wk_b tt_253 2 (pc' := 174) (ls' := [(0, .inr (.inr (.ref 88)))]) (st' := [.inl (45), .inr (.inr (.ref 88))]) (σ' := σ) rfl ?_
    obtain ⟨c15, w⟩ := w
    refine wk_callp tt_253 rfl rfl rfl rfl rfl tt_268 rfl (by decide) (w_isSignNow z σ (45) (by decide) c15) ?_
    refine wk_if tt_253 (tgt := 632) rfl rfl (sg_Rz (vz_isSignNow ..)) (fun (h16 : (v_isSignNow σ (45)) = 0) => ?_) (fun (h16 : ¬ (v_isSignNow σ (45)) = 0) => ?_)
    ·
      have w := w.1 h16
      exact wk_rV tt_253 rfl rfl ⟨rfl, (sg_F_r [93, 94, 95, 96, 97, 98, 110, 111, 8088, 9088, 30088, 31088, 32088, 35088] σ), w⟩
    ·
      have w := w.2 h16
      refine wk_b tt_253 3 (pc' := 184) (ls' := [(0, .inr (.inr (.ref 88)))]) (st' := [.inl (43), .inr (.inr (.ref 88)), .inr (.inr (.ref 88))]) (σ' := σ) rfl ?_
      obtain ⟨c17, w⟩ := w
      refine wk_callp tt_253 rfl rfl rfl rfl rfl tt_268 rfl (by decide) (w_isSignNow z σ (43) (by decide) c17) ?_
      have jn19 : ∀ v20 : Int, v20 = (if (v_isSignNow σ (43)) = 0 then (7 : Int) else (6 : Int)) → sg_R v20 → wx z 3 253 197 [] [.inl (v20), .inr (.inr (.ref 88))] σ (fun v σ' => v = none ∧ sg_F [93, 94, 95, 96, 97, 98, 110, 111, 8088, 9088, 30088, 31088, 32088, 35088] σ σ' ∧ Q σ') := by
        intro v20 e22 r21
        have w := w v20 e22 r21
        refine wk_b tt_253 2 (pc' := 199) (ls' := []) (st' := [.inl (5), .inl (4), .inl (v20), .inr (.inr (.ref 88))]) (σ' := σ) rfl ?_
        refine wk_call tt_253 rfl rfl rfl rfl rfl tt_312 rfl (by decide) (w_readBetween z σ (v20) (4) (5) _ r21 (by decide) (by decide) w) (fun u28 σ24 hq26 => ?_)
        obtain ⟨rfl, hF25, w⟩ := hq26
        have w := w hF25
        refine wk_b tt_253 1 (pc' := 632) (ls' := []) (st' := []) (σ' := σ24) rfl ?_
        exact wk_rV tt_253 rfl rfl ⟨rfl, (sg_F_t (sg_F_r [93, 94, 95, 96, 97, 98, 110, 111, 8088, 9088, 30088, 31088, 32088, 35088] σ) (sg_F_m (L := [93, 94, 95, 96, 97, 98, 110, 111, 8088, 9088, 30088, 31088, 32088, 35088]) hF25 rfl)), w⟩
      refine wk_if tt_253 (tgt := 195) rfl rfl (sg_Rz (vz_isSignNow ..)) (fun (h18 : (v_isSignNow σ (43)) = 0) => ?_) (fun (h18 : ¬ (v_isSignNow σ (43)) = 0) => ?_)
      ·
        clear w
        refine wk_b tt_253 1 (pc' := 197) (ls' := [(0, .inr (.inr (.ref 88)))]) (st' := [.inl (7), .inr (.inr (.ref 88))]) (σ' := σ) rfl ?_
        exact wk_ls [] rfl trivial (jn19 (7) (by simp only [if_pos h18]) (by decide))
      ·
        clear w
        refine wk_b tt_253 2 (pc' := 197) (ls' := [(0, .inr (.inr (.ref 88)))]) (st' := [.inl (6), .inr (.inr (.ref 88))]) (σ' := σ) rfl ?_
        exact wk_ls [] rfl trivial (jn19 (6) (by simp only [if_neg (show ¬ ((v_isSignNow σ (43)) = 0) by omega)]) (by decide))
-- NestedVectorsModel.goOn
def V_goOn_5 (σ : sg_S) (Q : sg_S → Prop) : Prop := V_pile σ (6) (0) (fun σ2 => sg_F [110, 111, 32088] σ σ2 → V_pile σ2 (7) (0) (fun σ8 => sg_F [110, 111, 32088] σ2 σ8 → Q σ8))
set_option maxHeartbeats 4000000 in
set_option maxRecDepth 8000 in
theorem w_goOn_5 (z : Value) (σ : sg_S) (Q : sg_S → Prop)  (w : V_goOn_5 σ  Q) : wx z 1 253 205 [(0, .inr (.inr (.ref 88)))] [] σ (fun v σ' => v = none ∧ sg_F [110, 111, 32088] σ σ' ∧ Q σ') := by
  unfold V_goOn_5 at w
  refine wk_b tt_253 3 (pc' := 209) (ls' := [(0, .inr (.inr (.ref 88)))]) (st' := [.inl (0), .inl (6), .inr (.inr (.ref 88))]) (σ' := σ) rfl ?_
  refine wk_call tt_253 rfl rfl rfl rfl rfl tt_305 rfl (by decide) (w_pile z σ (6) (0) _ (by decide) (by decide) w) (fun u6 σ2 hq4 => ?_)
  obtain ⟨rfl, hF3, w⟩ := hq4
  have w := w hF3
  refine wk_b tt_253 3 (pc' := 216) (ls' := [(0, .inr (.inr (.ref 88)))]) (st' := [.inl (0), .inl (7), .inr (.inr (.ref 88))]) (σ' := σ2) rfl ?_
  refine wk_call tt_253 rfl rfl rfl rfl rfl tt_305 rfl (by decide) (w_pile z σ2 (7) (0) _ (by decide) (by decide) w) (fun u12 σ8 hq10 => ?_)
  obtain ⟨rfl, hF9, w⟩ := hq10
  have w := w hF9
  refine wk_b tt_253 1 (pc' := 632) (ls' := [(0, .inr (.inr (.ref 88)))]) (st' := []) (σ' := σ8) rfl ?_
  exact wk_rV tt_253 rfl rfl ⟨rfl, (sg_F_t (sg_F_t (sg_F_r [110, 111, 32088] σ) (sg_F_m (L := [110, 111, 32088]) hF3 rfl)) (sg_F_m (L := [110, 111, 32088]) hF9 rfl)), w⟩
-- NestedVectorsModel.goOn
def V_goOn_6 (σ : sg_S) (Q : sg_S → Prop) : Prop := p_isSignNow σ (42) ∧ ((¬ (v_isSignNow σ (42)) = 0 → p_isSignNow σ (42) ∧ (((v_isSignNow σ (42)) = 0 → p_isSignNow σ (47) ∧ (((v_isSignNow σ (47)) = 0 → True) ∧ (¬ (v_isSignNow σ (47)) = 0 → True))) ∧ (¬ (v_isSignNow σ (42)) = 0 → True)) ∧ ∀ v6 : Int, v6 = (if (v_isSignNow σ (42)) = 0 then (if (v_isSignNow σ (47)) = 0 then (10 : Int) else (9 : Int)) else (8 : Int)) → sg_R v6 → V_readBetween σ (v6) (6) (7) (fun σ10 => sg_F [93, 94, 95, 96, 97, 98, 110, 111, 8088, 9088, 30088, 31088, 32088, 35088] σ σ10 → Q σ10)) ∧ ((v_isSignNow σ (42)) = 0 → p_isSignNow σ (47) ∧ ((¬ (v_isSignNow σ (47)) = 0 → p_isSignNow σ (42) ∧ (((v_isSignNow σ (42)) = 0 → p_isSignNow σ (47) ∧ (((v_isSignNow σ (47)) = 0 → True) ∧ (¬ (v_isSignNow σ (47)) = 0 → True))) ∧ (¬ (v_isSignNow σ (42)) = 0 → True)) ∧ ∀ v22 : Int, v22 = (if (v_isSignNow σ (42)) = 0 then (if (v_isSignNow σ (47)) = 0 then (10 : Int) else (9 : Int)) else (8 : Int)) → sg_R v22 → V_readBetween σ (v22) (6) (7) (fun σ26 => sg_F [93, 94, 95, 96, 97, 98, 110, 111, 8088, 9088, 30088, 31088, 32088, 35088] σ σ26 → Q σ26)) ∧ ((v_isSignNow σ (47)) = 0 → p_isSignNow σ (37) ∧ (((v_isSignNow σ (37)) = 0 → Q σ) ∧ (¬ (v_isSignNow σ (37)) = 0 → p_isSignNow σ (42) ∧ (((v_isSignNow σ (42)) = 0 → p_isSignNow σ (47) ∧ (((v_isSignNow σ (47)) = 0 → True) ∧ (¬ (v_isSignNow σ (47)) = 0 → True))) ∧ (¬ (v_isSignNow σ (42)) = 0 → True)) ∧ ∀ v38 : Int, v38 = (if (v_isSignNow σ (42)) = 0 then (if (v_isSignNow σ (47)) = 0 then (10 : Int) else (9 : Int)) else (8 : Int)) → sg_R v38 → V_readBetween σ (v38) (6) (7) (fun σ42 => sg_F [93, 94, 95, 96, 97, 98, 110, 111, 8088, 9088, 30088, 31088, 32088, 35088] σ σ42 → Q σ42)))))))
set_option maxHeartbeats 4000000 in
set_option maxRecDepth 8000 in
theorem w_goOn_6 (z : Value) (σ : sg_S) (Q : sg_S → Prop)  (w : V_goOn_6 σ  Q) : wx z 3 253 222 [(0, .inr (.inr (.ref 88)))] [] σ (fun v σ' => v = none ∧ sg_F [93, 94, 95, 96, 97, 98, 110, 111, 8088, 9088, 30088, 31088, 32088, 35088] σ σ' ∧ Q σ') := by
  unfold V_goOn_6 at w
  refine wk_b tt_253 2 (pc' := 225) (ls' := [(0, .inr (.inr (.ref 88)))]) (st' := [.inl (42), .inr (.inr (.ref 88))]) (σ' := σ) rfl ?_
  obtain ⟨c1, w⟩ := w
  refine wk_callp tt_253 rfl rfl rfl rfl rfl tt_268 rfl (by decide) (w_isSignNow z σ (42) (by decide) c1) ?_
  refine wk_if tt_253 (tgt := 249) rfl rfl (sg_Rz (vz_isSignNow ..)) (fun (h2 : ¬ (v_isSignNow σ (42)) = 0) => ?_) (fun (h2 : (v_isSignNow σ (42)) = 0) => ?_)
  ·
    have w := w.1 h2
    refine wk_b tt_253 3 (pc' := 253) (ls' := [(0, .inr (.inr (.ref 88)))]) (st' := [.inl (42), .inr (.inr (.ref 88)), .inr (.inr (.ref 88))]) (σ' := σ) rfl ?_
    obtain ⟨c3, w⟩ := w
    refine wk_callp tt_253 rfl rfl rfl rfl rfl tt_268 rfl (by decide) (w_isSignNow z σ (42) (by decide) c3) ?_
    obtain ⟨wp, w⟩ := w
    have jn5 : ∀ v6 : Int, v6 = (if (v_isSignNow σ (42)) = 0 then (if (v_isSignNow σ (47)) = 0 then (10 : Int) else (9 : Int)) else (8 : Int)) → sg_R v6 → wx z 3 253 280 [] [.inl (v6), .inr (.inr (.ref 88))] σ (fun v σ' => v = none ∧ sg_F [93, 94, 95, 96, 97, 98, 110, 111, 8088, 9088, 30088, 31088, 32088, 35088] σ σ' ∧ Q σ') := by
      intro v6 e8 r7
      have w := w v6 e8 r7
      refine wk_b tt_253 2 (pc' := 284) (ls' := []) (st' := [.inl (7), .inl (6), .inl (v6), .inr (.inr (.ref 88))]) (σ' := σ) rfl ?_
      refine wk_call tt_253 rfl rfl rfl rfl rfl tt_312 rfl (by decide) (w_readBetween z σ (v6) (6) (7) _ r7 (by decide) (by decide) w) (fun u14 σ10 hq12 => ?_)
      obtain ⟨rfl, hF11, w⟩ := hq12
      have w := w hF11
      refine wk_b tt_253 1 (pc' := 632) (ls' := []) (st' := []) (σ' := σ10) rfl ?_
      exact wk_rV tt_253 rfl rfl ⟨rfl, (sg_F_t (sg_F_r [93, 94, 95, 96, 97, 98, 110, 111, 8088, 9088, 30088, 31088, 32088, 35088] σ) (sg_F_m (L := [93, 94, 95, 96, 97, 98, 110, 111, 8088, 9088, 30088, 31088, 32088, 35088]) hF11 rfl)), w⟩
    have w := wp
    refine wk_if tt_253 (tgt := 264) rfl rfl (sg_Rz (vz_isSignNow ..)) (fun (h4 : (v_isSignNow σ (42)) = 0) => ?_) (fun (h4 : ¬ (v_isSignNow σ (42)) = 0) => ?_)
    ·
      have w := w.1 h4
      refine wk_b tt_253 2 (pc' := 267) (ls' := [(0, .inr (.inr (.ref 88)))]) (st' := [.inl (47), .inr (.inr (.ref 88)), .inr (.inr (.ref 88))]) (σ' := σ) rfl ?_
      obtain ⟨c15, w⟩ := w
      refine wk_callp tt_253 rfl rfl rfl rfl rfl tt_268 rfl (by decide) (w_isSignNow z σ (47) (by decide) c15) ?_
      refine wk_if tt_253 (tgt := 278) rfl rfl (sg_Rz (vz_isSignNow ..)) (fun (h16 : (v_isSignNow σ (47)) = 0) => ?_) (fun (h16 : ¬ (v_isSignNow σ (47)) = 0) => ?_)
      ·
        have w := w.1 h16
        refine wk_b tt_253 1 (pc' := 280) (ls' := [(0, .inr (.inr (.ref 88)))]) (st' := [.inl (10), .inr (.inr (.ref 88))]) (σ' := σ) rfl ?_
        exact wk_ls [] rfl trivial (jn5 (10) (by simp only [if_pos h4, if_pos h16]) (by decide))
      ·
        have w := w.2 h16
        refine wk_b tt_253 2 (pc' := 280) (ls' := [(0, .inr (.inr (.ref 88)))]) (st' := [.inl (9), .inr (.inr (.ref 88))]) (σ' := σ) rfl ?_
        exact wk_ls [] rfl trivial (jn5 (9) (by simp only [if_pos h4, if_neg (show ¬ ((v_isSignNow σ (47)) = 0) by omega)]) (by decide))
    ·
      have w := w.2 h4
      refine wk_b tt_253 2 (pc' := 280) (ls' := [(0, .inr (.inr (.ref 88)))]) (st' := [.inl (8), .inr (.inr (.ref 88))]) (σ' := σ) rfl ?_
      exact wk_ls [] rfl trivial (jn5 (8) (by simp only [if_neg (show ¬ ((v_isSignNow σ (42)) = 0) by omega)]) (by decide))
  ·
    have w := w.2 h2
    refine wk_b tt_253 2 (pc' := 234) (ls' := [(0, .inr (.inr (.ref 88)))]) (st' := [.inl (47), .inr (.inr (.ref 88))]) (σ' := σ) rfl ?_
    obtain ⟨c17, w⟩ := w
    refine wk_callp tt_253 rfl rfl rfl rfl rfl tt_268 rfl (by decide) (w_isSignNow z σ (47) (by decide) c17) ?_
    refine wk_if tt_253 (tgt := 249) rfl rfl (sg_Rz (vz_isSignNow ..)) (fun (h18 : ¬ (v_isSignNow σ (47)) = 0) => ?_) (fun (h18 : (v_isSignNow σ (47)) = 0) => ?_)
    ·
      have w := w.1 h18
      refine wk_b tt_253 3 (pc' := 253) (ls' := [(0, .inr (.inr (.ref 88)))]) (st' := [.inl (42), .inr (.inr (.ref 88)), .inr (.inr (.ref 88))]) (σ' := σ) rfl ?_
      obtain ⟨c19, w⟩ := w
      refine wk_callp tt_253 rfl rfl rfl rfl rfl tt_268 rfl (by decide) (w_isSignNow z σ (42) (by decide) c19) ?_
      obtain ⟨wp, w⟩ := w
      have jn21 : ∀ v22 : Int, v22 = (if (v_isSignNow σ (42)) = 0 then (if (v_isSignNow σ (47)) = 0 then (10 : Int) else (9 : Int)) else (8 : Int)) → sg_R v22 → wx z 3 253 280 [] [.inl (v22), .inr (.inr (.ref 88))] σ (fun v σ' => v = none ∧ sg_F [93, 94, 95, 96, 97, 98, 110, 111, 8088, 9088, 30088, 31088, 32088, 35088] σ σ' ∧ Q σ') := by
        intro v22 e24 r23
        have w := w v22 e24 r23
        refine wk_b tt_253 2 (pc' := 284) (ls' := []) (st' := [.inl (7), .inl (6), .inl (v22), .inr (.inr (.ref 88))]) (σ' := σ) rfl ?_
        refine wk_call tt_253 rfl rfl rfl rfl rfl tt_312 rfl (by decide) (w_readBetween z σ (v22) (6) (7) _ r23 (by decide) (by decide) w) (fun u30 σ26 hq28 => ?_)
        obtain ⟨rfl, hF27, w⟩ := hq28
        have w := w hF27
        refine wk_b tt_253 1 (pc' := 632) (ls' := []) (st' := []) (σ' := σ26) rfl ?_
        exact wk_rV tt_253 rfl rfl ⟨rfl, (sg_F_t (sg_F_r [93, 94, 95, 96, 97, 98, 110, 111, 8088, 9088, 30088, 31088, 32088, 35088] σ) (sg_F_m (L := [93, 94, 95, 96, 97, 98, 110, 111, 8088, 9088, 30088, 31088, 32088, 35088]) hF27 rfl)), w⟩
      have w := wp
      refine wk_if tt_253 (tgt := 264) rfl rfl (sg_Rz (vz_isSignNow ..)) (fun (h20 : (v_isSignNow σ (42)) = 0) => ?_) (fun (h20 : ¬ (v_isSignNow σ (42)) = 0) => ?_)
      ·
        have w := w.1 h20
        refine wk_b tt_253 2 (pc' := 267) (ls' := [(0, .inr (.inr (.ref 88)))]) (st' := [.inl (47), .inr (.inr (.ref 88)), .inr (.inr (.ref 88))]) (σ' := σ) rfl ?_
        obtain ⟨c31, w⟩ := w
        refine wk_callp tt_253 rfl rfl rfl rfl rfl tt_268 rfl (by decide) (w_isSignNow z σ (47) (by decide) c31) ?_
        refine wk_if tt_253 (tgt := 278) rfl rfl (sg_Rz (vz_isSignNow ..)) (fun (h32 : (v_isSignNow σ (47)) = 0) => ?_) (fun (h32 : ¬ (v_isSignNow σ (47)) = 0) => ?_)
        ·
          have w := w.1 h32
          refine wk_b tt_253 1 (pc' := 280) (ls' := [(0, .inr (.inr (.ref 88)))]) (st' := [.inl (10), .inr (.inr (.ref 88))]) (σ' := σ) rfl ?_
          exact wk_ls [] rfl trivial (jn21 (10) (by simp only [if_pos h20, if_pos h32]) (by decide))
        ·
          have w := w.2 h32
          refine wk_b tt_253 2 (pc' := 280) (ls' := [(0, .inr (.inr (.ref 88)))]) (st' := [.inl (9), .inr (.inr (.ref 88))]) (σ' := σ) rfl ?_
          exact wk_ls [] rfl trivial (jn21 (9) (by simp only [if_pos h20, if_neg (show ¬ ((v_isSignNow σ (47)) = 0) by omega)]) (by decide))
      ·
        have w := w.2 h20
        refine wk_b tt_253 2 (pc' := 280) (ls' := [(0, .inr (.inr (.ref 88)))]) (st' := [.inl (8), .inr (.inr (.ref 88))]) (σ' := σ) rfl ?_
        exact wk_ls [] rfl trivial (jn21 (8) (by simp only [if_neg (show ¬ ((v_isSignNow σ (42)) = 0) by omega)]) (by decide))
    ·
      have w := w.2 h18
      refine wk_b tt_253 2 (pc' := 243) (ls' := [(0, .inr (.inr (.ref 88)))]) (st' := [.inl (37), .inr (.inr (.ref 88))]) (σ' := σ) rfl ?_
      obtain ⟨c33, w⟩ := w
      refine wk_callp tt_253 rfl rfl rfl rfl rfl tt_268 rfl (by decide) (w_isSignNow z σ (37) (by decide) c33) ?_
      refine wk_if tt_253 (tgt := 632) rfl rfl (sg_Rz (vz_isSignNow ..)) (fun (h34 : (v_isSignNow σ (37)) = 0) => ?_) (fun (h34 : ¬ (v_isSignNow σ (37)) = 0) => ?_)
      ·
        have w := w.1 h34
        exact wk_rV tt_253 rfl rfl ⟨rfl, (sg_F_r [93, 94, 95, 96, 97, 98, 110, 111, 8088, 9088, 30088, 31088, 32088, 35088] σ), w⟩
      ·
        have w := w.2 h34
        refine wk_b tt_253 3 (pc' := 253) (ls' := [(0, .inr (.inr (.ref 88)))]) (st' := [.inl (42), .inr (.inr (.ref 88)), .inr (.inr (.ref 88))]) (σ' := σ) rfl ?_
        obtain ⟨c35, w⟩ := w
        refine wk_callp tt_253 rfl rfl rfl rfl rfl tt_268 rfl (by decide) (w_isSignNow z σ (42) (by decide) c35) ?_
        obtain ⟨wp, w⟩ := w
        have jn37 : ∀ v38 : Int, v38 = (if (v_isSignNow σ (42)) = 0 then (if (v_isSignNow σ (47)) = 0 then (10 : Int) else (9 : Int)) else (8 : Int)) → sg_R v38 → wx z 3 253 280 [] [.inl (v38), .inr (.inr (.ref 88))] σ (fun v σ' => v = none ∧ sg_F [93, 94, 95, 96, 97, 98, 110, 111, 8088, 9088, 30088, 31088, 32088, 35088] σ σ' ∧ Q σ') := by
          intro v38 e40 r39
          have w := w v38 e40 r39
          refine wk_b tt_253 2 (pc' := 284) (ls' := []) (st' := [.inl (7), .inl (6), .inl (v38), .inr (.inr (.ref 88))]) (σ' := σ) rfl ?_
          refine wk_call tt_253 rfl rfl rfl rfl rfl tt_312 rfl (by decide) (w_readBetween z σ (v38) (6) (7) _ r39 (by decide) (by decide) w) (fun u46 σ42 hq44 => ?_)
          obtain ⟨rfl, hF43, w⟩ := hq44
          have w := w hF43
          refine wk_b tt_253 1 (pc' := 632) (ls' := []) (st' := []) (σ' := σ42) rfl ?_
          exact wk_rV tt_253 rfl rfl ⟨rfl, (sg_F_t (sg_F_r [93, 94, 95, 96, 97, 98, 110, 111, 8088, 9088, 30088, 31088, 32088, 35088] σ) (sg_F_m (L := [93, 94, 95, 96, 97, 98, 110, 111, 8088, 9088, 30088, 31088, 32088, 35088]) hF43 rfl)), w⟩
        have w := wp
        refine wk_if tt_253 (tgt := 264) rfl rfl (sg_Rz (vz_isSignNow ..)) (fun (h36 : (v_isSignNow σ (42)) = 0) => ?_) (fun (h36 : ¬ (v_isSignNow σ (42)) = 0) => ?_)
        ·
          have w := w.1 h36
          refine wk_b tt_253 2 (pc' := 267) (ls' := [(0, .inr (.inr (.ref 88)))]) (st' := [.inl (47), .inr (.inr (.ref 88)), .inr (.inr (.ref 88))]) (σ' := σ) rfl ?_
          obtain ⟨c47, w⟩ := w
          refine wk_callp tt_253 rfl rfl rfl rfl rfl tt_268 rfl (by decide) (w_isSignNow z σ (47) (by decide) c47) ?_
          refine wk_if tt_253 (tgt := 278) rfl rfl (sg_Rz (vz_isSignNow ..)) (fun (h48 : (v_isSignNow σ (47)) = 0) => ?_) (fun (h48 : ¬ (v_isSignNow σ (47)) = 0) => ?_)
          ·
            have w := w.1 h48
            refine wk_b tt_253 1 (pc' := 280) (ls' := [(0, .inr (.inr (.ref 88)))]) (st' := [.inl (10), .inr (.inr (.ref 88))]) (σ' := σ) rfl ?_
            exact wk_ls [] rfl trivial (jn37 (10) (by simp only [if_pos h36, if_pos h48]) (by decide))
          ·
            have w := w.2 h48
            refine wk_b tt_253 2 (pc' := 280) (ls' := [(0, .inr (.inr (.ref 88)))]) (st' := [.inl (9), .inr (.inr (.ref 88))]) (σ' := σ) rfl ?_
            exact wk_ls [] rfl trivial (jn37 (9) (by simp only [if_pos h36, if_neg (show ¬ ((v_isSignNow σ (47)) = 0) by omega)]) (by decide))
        ·
          have w := w.2 h36
          refine wk_b tt_253 2 (pc' := 280) (ls' := [(0, .inr (.inr (.ref 88)))]) (st' := [.inl (8), .inr (.inr (.ref 88))]) (σ' := σ) rfl ?_
          exact wk_ls [] rfl trivial (jn37 (8) (by simp only [if_neg (show ¬ ((v_isSignNow σ (42)) = 0) by omega)]) (by decide))
