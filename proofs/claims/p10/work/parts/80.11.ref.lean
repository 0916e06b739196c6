/-! Conditions of the reference's methods, by program (11). -/
-- NestedVectorsModel.endNested
def V_endNested_0 (σ : sg_S) (b1 : Int) (Q : sg_S → Prop) : Prop := (0 ≤ b1 ∧ b1 < 210) ∧ ((¬ (sg_g σ 88 73) = 0 → Q σ) ∧ ((sg_g σ 88 73) = 0 → V_leave σ ((sg_n (sg_gl σ 95 (b1)))) (fun σ4 => sg_F [129, 131, 133, 55088, 56088, 63088, 71088, 74088] σ σ4 → Q σ4)))
set_option maxHeartbeats 4000000 in
set_option maxRecDepth 8000 in
theorem w_endNested_0 (z : Value) (σ : sg_S) (b1 : Int) (Q : sg_S → Prop) (rb1 : sg_R b1) (w : V_endNested_0 σ b1 Q) : wx z 2 223 80 [(0, .inr (.inr (.ref 88))), (1, .inl (b1))] [] σ (fun v σ' => v = none ∧ sg_F [129, 131, 133, 55088, 56088, 63088, 71088, 74088] σ σ' ∧ Q σ') := by
  unfold V_endNested_0 at w
  refine wk_b tt_223 3 (pc' := 85) (ls' := [(0, .inr (.inr (.ref 88))), (1, .inl (b1))]) (st' := [.inl (b1), .inr (.inr (.ref 95))]) (σ' := σ) rfl ?_
  obtain ⟨c1, w⟩ := w
  refine wk_la tt_223 rfl rfl c1.1 c1.2 rb1 ?_
  refine wk_b tt_223 1 (pc' := 87) (ls' := [(0, .inr (.inr (.ref 88))), (1, .inl (b1))]) (st' := [.inl ((sg_gl σ 95 (b1)))]) (σ' := σ) rfl ?_
  refine wk_n ?_
  refine wk_b tt_223 4 (pc' := 366) (ls' := [(3, .inl ((sg_n (sg_gl σ 95 (b1))))), (0, .inr (.inr (.ref 88))), (1, .inl (b1))]) (st' := [.inl ((sg_g σ 88 73))]) (σ' := σ) rfl ?_
  refine wk_if tt_223 (tgt := 374) rfl rfl (sg_Rg _ _ _) (fun (h2 : ¬ (sg_g σ 88 73) = 0) => ?_) (fun (h2 : (sg_g σ 88 73) = 0) => ?_)
  ·
    have w := w.1 h2
    exact wk_rV tt_223 rfl rfl ⟨rfl, (sg_F_r [129, 131, 133, 55088, 56088, 63088, 71088, 74088] σ), w⟩
  ·
    have w := w.2 h2
    refine wk_b tt_223 2 (pc' := 371) (ls' := [(3, .inl ((sg_n (sg_gl σ 95 (b1))))), (0, .inr (.inr (.ref 88))), (1, .inl (b1))]) (st' := [.inl ((sg_n (sg_gl σ 95 (b1)))), .inr (.inr (.ref 88))]) (σ' := σ) rfl ?_
    refine wk_call tt_223 rfl rfl rfl rfl rfl tt_278 rfl (by decide) (w_leave z σ ((sg_n (sg_gl σ 95 (b1)))) _ (sg_Rn _) w) (fun u8 σ4 hq6 => ?_)
    obtain ⟨rfl, hF5, w⟩ := hq6
    have w := w hF5
    exact wk_rV tt_223 rfl rfl ⟨rfl, (sg_F_t (sg_F_r [129, 131, 133, 55088, 56088, 63088, 71088, 74088] σ) (sg_F_m (L := [129, 131, 133, 55088, 56088, 63088, 71088, 74088]) hF5 rfl)), w⟩
-- NestedVectorsModel.endNested
def V_endNested_1 (σ : sg_S) (b1 : Int) (Q : sg_S → Prop) : Prop := (0 ≤ b1 ∧ b1 < 210) ∧ (0 ≤ (sg_g σ 102 (b1)) ∧ (sg_g σ 102 (b1)) < 1200) ∧ ((¬ (sg_g σ 88 73) = 0 → Q σ) ∧ ((sg_g σ 88 73) = 0 → V_leave σ ((sg_g σ 134 ((sg_g σ 102 (b1))))) (fun σ5 => sg_F [129, 131, 133, 55088, 56088, 63088, 71088, 74088] σ σ5 → Q σ5)))
set_option maxHeartbeats 4000000 in
set_option maxRecDepth 8000 in
theorem w_endNested_1 (z : Value) (σ : sg_S) (b1 : Int) (Q : sg_S → Prop) (rb1 : sg_R b1) (w : V_endNested_1 σ b1 Q) : wx z 2 223 91 [(0, .inr (.inr (.ref 88))), (1, .inl (b1))] [] σ (fun v σ' => v = none ∧ sg_F [129, 131, 133, 55088, 56088, 63088, 71088, 74088] σ σ' ∧ Q σ') := by
  unfold V_endNested_1 at w
  refine wk_b tt_223 5 (pc' := 100) (ls' := [(0, .inr (.inr (.ref 88))), (1, .inl (b1))]) (st' := [.inl (b1), .inr (.inr (.ref 102)), .inr (.inr (.ref 134))]) (σ' := σ) rfl ?_
  obtain ⟨c1, w⟩ := w
  refine wk_ia tt_223 rfl rfl c1.1 c1.2 rb1 ?_
  obtain ⟨c2, w⟩ := w
  refine wk_ia tt_223 rfl rfl c2.1 c2.2 (sg_Rg _ _ _) ?_
  refine wk_b tt_223 4 (pc' := 366) (ls' := [(3, .inl ((sg_g σ 134 ((sg_g σ 102 (b1)))))), (0, .inr (.inr (.ref 88))), (1, .inl (b1))]) (st' := [.inl ((sg_g σ 88 73))]) (σ' := σ) rfl ?_
  refine wk_if tt_223 (tgt := 374) rfl rfl (sg_Rg _ _ _) (fun (h3 : ¬ (sg_g σ 88 73) = 0) => ?_) (fun (h3 : (sg_g σ 88 73) = 0) => ?_)
  ·
    have w := w.1 h3
    exact wk_rV tt_223 rfl rfl ⟨rfl, (sg_F_r [129, 131, 133, 55088, 56088, 63088, 71088, 74088] σ), w⟩
  ·
    have w := w.2 h3
    refine wk_b tt_223 2 (pc' := 371) (ls' := [(3, .inl ((sg_g σ 134 ((sg_g σ 102 (b1)))))), (0, .inr (.inr (.ref 88))), (1, .inl (b1))]) (st' := [.inl ((sg_g σ 134 ((sg_g σ 102 (b1))))), .inr (.inr (.ref 88))]) (σ' := σ) rfl ?_
    refine wk_call tt_223 rfl rfl rfl rfl rfl tt_278 rfl (by decide) (w_leave z σ ((sg_g σ 134 ((sg_g σ 102 (b1))))) _ (sg_Rg _ _ _) w) (fun u9 σ5 hq7 => ?_)
    obtain ⟨rfl, hF6, w⟩ := hq7
    have w := w hF6
    exact wk_rV tt_223 rfl rfl ⟨rfl, (sg_F_t (sg_F_r [129, 131, 133, 55088, 56088, 63088, 71088, 74088] σ) (sg_F_m (L := [129, 131, 133, 55088, 56088, 63088, 71088, 74088]) hF6 rfl)), w⟩
-- NestedVectorsModel.endNested
def V_endNested_2 (σ : sg_S) (b2 : Int) (Q : sg_S → Prop) : Prop := (0 ≤ b2 ∧ b2 < 12000) ∧ ((¬ (sg_g σ 88 73) = 0 → Q σ) ∧ ((sg_g σ 88 73) = 0 → V_leave σ ((sg_g σ 133 (b2))) (fun σ4 => sg_F [129, 131, 133, 55088, 56088, 63088, 71088, 74088] σ σ4 → Q σ4)))
set_option maxHeartbeats 4000000 in
set_option maxRecDepth 8000 in
theorem w_endNested_2 (z : Value) (σ : sg_S) (b2 : Int) (Q : sg_S → Prop) (rb2 : sg_R b2) (w : V_endNested_2 σ b2 Q) : wx z 2 223 106 [(0, .inr (.inr (.ref 88))), (2, .inl (b2))] [] σ (fun v σ' => v = none ∧ sg_F [129, 131, 133, 55088, 56088, 63088, 71088, 74088] σ σ' ∧ Q σ') := by
  unfold V_endNested_2 at w
  refine wk_b tt_223 3 (pc' := 111) (ls' := [(0, .inr (.inr (.ref 88))), (2, .inl (b2))]) (st' := [.inl (b2), .inr (.inr (.ref 133))]) (σ' := σ) rfl ?_
  obtain ⟨c1, w⟩ := w
  refine wk_ia tt_223 rfl rfl c1.1 c1.2 rb2 ?_
  refine wk_b tt_223 4 (pc' := 366) (ls' := [(3, .inl ((sg_g σ 133 (b2)))), (0, .inr (.inr (.ref 88))), (2, .inl (b2))]) (st' := [.inl ((sg_g σ 88 73))]) (σ' := σ) rfl ?_
  refine wk_if tt_223 (tgt := 374) rfl rfl (sg_Rg _ _ _) (fun (h2 : ¬ (sg_g σ 88 73) = 0) => ?_) (fun (h2 : (sg_g σ 88 73) = 0) => ?_)
  ·
    have w := w.1 h2
    exact wk_rV tt_223 rfl rfl ⟨rfl, (sg_F_r [129, 131, 133, 55088, 56088, 63088, 71088, 74088] σ), w⟩
  ·
    have w := w.2 h2
    refine wk_b tt_223 2 (pc' := 371) (ls' := [(3, .inl ((sg_g σ 133 (b2)))), (0, .inr (.inr (.ref 88))), (2, .inl (b2))]) (st' := [.inl ((sg_g σ 133 (b2))), .inr (.inr (.ref 88))]) (σ' := σ) rfl ?_
    refine wk_call tt_223 rfl rfl rfl rfl rfl tt_278 rfl (by decide) (w_leave z σ ((sg_g σ 133 (b2))) _ (sg_Rg _ _ _) w) (fun u8 σ4 hq6 => ?_)
    obtain ⟨rfl, hF5, w⟩ := hq6
    have w := w hF5
    exact wk_rV tt_223 rfl rfl ⟨rfl, (sg_F_t (sg_F_r [129, 131, 133, 55088, 56088, 63088, 71088, 74088] σ) (sg_F_m (L := [129, 131, 133, 55088, 56088, 63088, 71088, 74088]) hF5 rfl)), w⟩
-- NestedVectorsModel.endNested
def V_endNested_11 (σ : sg_S) (b2 : Int) (Q : sg_S → Prop) : Prop := (0 ≤ b2 ∧ b2 < 12000) ∧ (0 ≤ (sg_g σ 133 (b2)) ∧ (sg_g σ 133 (b2)) < 9000) ∧ ((¬ (sg_g σ 88 73) = 0 → Q σ) ∧ ((sg_g σ 88 73) = 0 → V_leave σ ((sg_g σ 123 ((sg_g σ 133 (b2))))) (fun σ5 => sg_F [129, 131, 133, 55088, 56088, 63088, 71088, 74088] σ σ5 → Q σ5)))
set_option maxHeartbeats 4000000 in
set_option maxRecDepth 8000 in
theorem w_endNested_11 (z : Value) (σ : sg_S) (b2 : Int) (Q : sg_S → Prop) (rb2 : sg_R b2) (w : V_endNested_11 σ b2 Q) : wx z 2 223 116 [(0, .inr (.inr (.ref 88))), (2, .inl (b2))] [] σ (fun v σ' => v = none ∧ sg_F [129, 131, 133, 55088, 56088, 63088, 71088, 74088] σ σ' ∧ Q σ') := by
  unfold V_endNested_11 at w
  refine wk_b tt_223 5 (pc' := 125) (ls' := [(0, .inr (.inr (.ref 88))), (2, .inl (b2))]) (st' := [.inl (b2), .inr (.inr (.ref 133)), .inr (.inr (.ref 123))]) (σ' := σ) rfl ?_
  obtain ⟨c1, w⟩ := w
  refine wk_ia tt_223 rfl rfl c1.1 c1.2 rb2 ?_
  obtain ⟨c2, w⟩ := w
  refine wk_ia tt_223 rfl rfl c2.1 c2.2 (sg_Rg _ _ _) ?_
  refine wk_b tt_223 4 (pc' := 366) (ls' := [(3, .inl ((sg_g σ 123 ((sg_g σ 133 (b2)))))), (0, .inr (.inr (.ref 88))), (2, .inl (b2))]) (st' := [.inl ((sg_g σ 88 73))]) (σ' := σ) rfl ?_
  refine wk_if tt_223 (tgt := 374) rfl rfl (sg_Rg _ _ _) (fun (h3 : ¬ (sg_g σ 88 73) = 0) => ?_) (fun (h3 : (sg_g σ 88 73) = 0) => ?_)
  ·
    have w := w.1 h3
    exact wk_rV tt_223 rfl rfl ⟨rfl, (sg_F_r [129, 131, 133, 55088, 56088, 63088, 71088, 74088] σ), w⟩
  ·
    have w := w.2 h3
    refine wk_b tt_223 2 (pc' := 371) (ls' := [(3, .inl ((sg_g σ 123 ((sg_g σ 133 (b2)))))), (0, .inr (.inr (.ref 88))), (2, .inl (b2))]) (st' := [.inl ((sg_g σ 123 ((sg_g σ 133 (b2))))), .inr (.inr (.ref 88))]) (σ' := σ) rfl ?_
    refine wk_call tt_223 rfl rfl rfl rfl rfl tt_278 rfl (by decide) (w_leave z σ ((sg_g σ 123 ((sg_g σ 133 (b2))))) _ (sg_Rg _ _ _) w) (fun u9 σ5 hq7 => ?_)
    obtain ⟨rfl, hF6, w⟩ := hq7
    have w := w hF6
    exact wk_rV tt_223 rfl rfl ⟨rfl, (sg_F_t (sg_F_r [129, 131, 133, 55088, 56088, 63088, 71088, 74088] σ) (sg_F_m (L := [129, 131, 133, 55088, 56088, 63088, 71088, 74088]) hF6 rfl)), w⟩
-- NestedVectorsModel.endNested
def V_endNested_12 (σ : sg_S) (b2 : Int) (Q : sg_S → Prop) : Prop := sg_R (b2 + 1) ∧ (0 ≤ (b2 + 1) ∧ (b2 + 1) < 12000) ∧ (0 ≤ b2 ∧ b2 < 12000) ∧ (0 ≤ (sg_g σ 133 (b2)) ∧ (sg_g σ 133 (b2)) < 9000) ∧ sg_R ((sg_g σ 123 ((sg_g σ 133 (b2)))) - 1) ∧ ((¬ (v_in ((sg_g σ 133 ((b2 + 1)))) (0) (((sg_g σ 123 ((sg_g σ 133 (b2)))) - 1))) = 0 → p_itemAt σ ((sg_g σ 133 (b2))) ((sg_g σ 133 ((b2 + 1)))) ∧ ((¬ (sg_g σ 88 73) = 0 → Q σ) ∧ ((sg_g σ 88 73) = 0 → V_leave σ ((v_itemAt σ ((sg_g σ 133 (b2))) ((sg_g σ 133 ((b2 + 1)))))) (fun σ11 => sg_F [129, 131, 133, 55088, 56088, 63088, 71088, 74088] σ σ11 → Q σ11)))) ∧ ((v_in ((sg_g σ 133 ((b2 + 1)))) (0) (((sg_g σ 123 ((sg_g σ 133 (b2)))) - 1))) = 0 → V_ends σ (2) (fun σ17 => sg_F [74088] σ σ17 → Q σ17)))
set_option maxHeartbeats 4000000 in
set_option maxRecDepth 8000 in
theorem w_endNested_12 (z : Value) (σ : sg_S) (b2 : Int) (Q : sg_S → Prop) (rb2 : sg_R b2) (w : V_endNested_12 σ b2 Q) : wx z 2 223 131 [(0, .inr (.inr (.ref 88))), (2, .inl (b2))] [] σ (fun v σ' => v = none ∧ sg_F [129, 131, 133, 55088, 56088, 63088, 71088, 74088] σ σ' ∧ Q σ') := by
  unfold V_endNested_12 at w
  obtain ⟨c1, w⟩ := w
  refine wk_b tt_223 5 (pc' := 138) (ls' := [(0, .inr (.inr (.ref 88))), (2, .inl (b2))]) (st' := [.inl ((b2 + 1)), .inr (.inr (.ref 133))]) (σ' := σ) rfl ?_
  obtain ⟨c2, w⟩ := w
  refine wk_ia tt_223 rfl rfl c2.1 c2.2 c1 ?_
  refine wk_b tt_223 7 (pc' := 150) (ls' := [(0, .inr (.inr (.ref 88))), (2, .inl (b2))]) (st' := [.inl (b2), .inr (.inr (.ref 133)), .inr (.inr (.ref 123)), .inr (.inl (0)), .inr (.inl ((sg_n ((sg_g σ 133 ((b2 + 1)))))))]) (σ' := σ) rfl ?_
  rw [show (sg_n ((sg_g σ 133 ((b2 + 1))))) = (sg_g σ 133 ((b2 + 1))) from by rw [sg_id (sg_Rg _ _ _)]]
  obtain ⟨c3, w⟩ := w
  refine wk_ia tt_223 rfl rfl c3.1 c3.2 rb2 ?_
  obtain ⟨c4, w⟩ := w
  refine wk_ia tt_223 rfl rfl c4.1 c4.2 (sg_Rg _ _ _) ?_
  obtain ⟨c5, w⟩ := w
  refine wk_b tt_223 3 (pc' := 155) (ls' := [(0, .inr (.inr (.ref 88))), (2, .inl (b2))]) (st' := [.inr (.inl ((sg_n (((sg_g σ 123 ((sg_g σ 133 (b2)))) - 1))))), .inr (.inl (0)), .inr (.inl ((sg_g σ 133 ((b2 + 1)))))]) (σ' := σ) rfl ?_
  rw [show (sg_n (((sg_g σ 123 ((sg_g σ 133 (b2)))) - 1))) = ((sg_g σ 123 ((sg_g σ 133 (b2)))) - 1) from by rw [sg_id c5]]
  refine wk_callp tt_223 rfl rfl rfl rfl rfl tt_258 rfl (by decide) (w_in z σ ((sg_g σ 133 ((b2 + 1)))) (0) (((sg_g σ 123 ((sg_g σ 133 (b2)))) - 1)) (sg_Rgl2 (sg_Rg _ _ _)) (by decide) (sg_Rgl2 c5) ) ?_
  refine wk_if tt_223 (tgt := 167) rfl rfl (sg_Rz (vz_in ..)) (fun (h6 : ¬ (v_in ((sg_g σ 133 ((b2 + 1)))) (0) (((sg_g σ 123 ((sg_g σ 133 (b2)))) - 1))) = 0) => ?_) (fun (h6 : (v_in ((sg_g σ 133 ((b2 + 1)))) (0) (((sg_g σ 123 ((sg_g σ 133 (b2)))) - 1))) = 0) => ?_)
  ·
    have w := w.1 h6
    refine wk_b tt_223 4 (pc' := 173) (ls' := [(0, .inr (.inr (.ref 88))), (2, .inl (b2))]) (st' := [.inl (b2), .inr (.inr (.ref 133)), .inr (.inr (.ref 88))]) (σ' := σ) rfl ?_
    refine wk_ia tt_223 rfl rfl c3.1 c3.2 rb2 ?_
    refine wk_b tt_223 5 (pc' := 181) (ls' := [(0, .inr (.inr (.ref 88))), (2, .inl (b2))]) (st' := [.inl ((b2 + 1)), .inr (.inr (.ref 133)), .inl ((sg_g σ 133 (b2))), .inr (.inr (.ref 88))]) (σ' := σ) rfl ?_
    refine wk_ia tt_223 rfl rfl c2.1 c2.2 c1 ?_
    obtain ⟨c7, w⟩ := w
    refine wk_callp tt_223 rfl rfl rfl rfl rfl tt_270 rfl (by decide) (w_itemAt z σ ((sg_g σ 133 (b2))) ((sg_g σ 133 ((b2 + 1)))) (sg_Rg _ _ _) (sg_Rg _ _ _) c7) ?_
    have r8 := vr_itemAt σ  ((sg_g σ 133 (b2))) ((sg_g σ 133 ((b2 + 1)))) (sg_Rg _ _ _) (sg_Rg _ _ _) c7
    refine wk_b tt_223 4 (pc' := 366) (ls' := [(3, .inl ((v_itemAt σ ((sg_g σ 133 (b2))) ((sg_g σ 133 ((b2 + 1))))))), (0, .inr (.inr (.ref 88))), (2, .inl (b2))]) (st' := [.inl ((sg_g σ 88 73))]) (σ' := σ) rfl ?_
    refine wk_if tt_223 (tgt := 374) rfl rfl (sg_Rg _ _ _) (fun (h9 : ¬ (sg_g σ 88 73) = 0) => ?_) (fun (h9 : (sg_g σ 88 73) = 0) => ?_)
    ·
      have w := w.1 h9
      exact wk_rV tt_223 rfl rfl ⟨rfl, (sg_F_r [129, 131, 133, 55088, 56088, 63088, 71088, 74088] σ), w⟩
    ·
      have w := w.2 h9
      refine wk_b tt_223 2 (pc' := 371) (ls' := [(3, .inl ((v_itemAt σ ((sg_g σ 133 (b2))) ((sg_g σ 133 ((b2 + 1))))))), (0, .inr (.inr (.ref 88))), (2, .inl (b2))]) (st' := [.inl ((v_itemAt σ ((sg_g σ 133 (b2))) ((sg_g σ 133 ((b2 + 1)))))), .inr (.inr (.ref 88))]) (σ' := σ) rfl ?_
      refine wk_call tt_223 rfl rfl rfl rfl rfl tt_278 rfl (by decide) (w_leave z σ ((v_itemAt σ ((sg_g σ 133 (b2))) ((sg_g σ 133 ((b2 + 1)))))) _ r8 w) (fun u15 σ11 hq13 => ?_)
      obtain ⟨rfl, hF12, w⟩ := hq13
      have w := w hF12
      exact wk_rV tt_223 rfl rfl ⟨rfl, (sg_F_t (sg_F_r [129, 131, 133, 55088, 56088, 63088, 71088, 74088] σ) (sg_F_m (L := [129, 131, 133, 55088, 56088, 63088, 71088, 74088]) hF12 rfl)), w⟩
  ·
    have w := w.2 h6
    refine wk_b tt_223 2 (pc' := 163) (ls' := [(0, .inr (.inr (.ref 88))), (2, .inl (b2))]) (st' := [.inl (2), .inr (.inr (.ref 88))]) (σ' := σ) rfl ?_
    refine wk_call tt_223 rfl rfl rfl rfl rfl tt_224 rfl (by decide) (w_ends z σ (2) _ (by decide) w) (fun u21 σ17 hq19 => ?_)
    obtain ⟨rfl, hF18, w⟩ := hq19
    have w := w hF18
    exact wk_rV tt_223 rfl rfl ⟨rfl, (sg_F_t (sg_F_r [129, 131, 133, 55088, 56088, 63088, 71088, 74088] σ) (sg_F_m (L := [129, 131, 133, 55088, 56088, 63088, 71088, 74088]) hF18 rfl)), w⟩
-- NestedVectorsModel.endNested
def V_endNested_14 (σ : sg_S) (b1 : Int) (b2 : Int) (Q : sg_S → Prop) : Prop := (∃ (I4 : Nat → Int → sg_S → Prop) (X6 : sg_S → Prop), (∃ n, I4 n (0) σ) ∧ (∀ (n14 : Nat) (v1 : Int) (σ2 : sg_S), sg_R v1 → sg_F [125, 61088] σ σ2 → I4 n14 v1 σ2 → (0 ≤ b1 ∧ b1 < 210) ∧ (((sg_g σ 96 (b1)) ≤ v1 → X6 σ2) ∧ (v1 < (sg_g σ 96 (b1)) → sg_R (b2 + v1) ∧ (0 ≤ (b2 + v1) ∧ (b2 + v1) < 12000) ∧ V_add σ2 ((sg_g σ 133 ((b2 + v1)))) (fun σ35 => sg_F [125, 61088] σ2 σ35 → sg_R (v1 + 1) ∧ (∃ m, m < n14 ∧ I4 m ((v1 + 1)) σ35))))) ∧ (∀ (σ2 : sg_S), sg_F [125, 61088] σ σ2 → X6 σ2 → (0 ≤ b1 ∧ b1 < 210) ∧ V_seq σ2 ((sg_g σ 88 60)) ((sg_g σ 96 (b1))) ((sg_g σ 101 (b1))) (fun q17 σ18 => sg_R q17 → sg_F [122, 123, 124, 57088] σ2 σ18 → ((¬ (sg_g σ 88 73) = 0 → Q σ18) ∧ ((sg_g σ 88 73) = 0 → V_leave σ18 (q17) (fun σ25 => sg_F [129, 131, 133, 55088, 56088, 63088, 71088, 74088] σ18 σ25 → Q σ25))))))
set_option maxHeartbeats 4000000 in
set_option maxRecDepth 8000 in
theorem w_endNested_14 (z : Value) (σ : sg_S) (b1 : Int) (b2 : Int) (Q : sg_S → Prop) (rb1 : sg_R b1) (rb2 : sg_R b2) (w : V_endNested_14 σ b1 b2 Q) : wx z 2 223 189 [(0, .inr (.inr (.ref 88))), (1, .inl (b1)), (2, .inl (b2))] [] σ (fun v σ' => v = none ∧ sg_F [122, 123, 124, 125, 129, 131, 133, 55088, 56088, 57088, 61088, 63088, 71088, 74088] σ σ' ∧ Q σ') := by
  unfold V_endNested_14 at w
  refine wk_b tt_223 5 (pc' := 198) (ls' := [(5, .inl (0)), (4, .inl ((sg_g σ 88 60))), (0, .inr (.inr (.ref 88))), (1, .inl (b1)), (2, .inl (b2))]) (st' := []) (σ' := σ) rfl ?_
  obtain ⟨I4, X6, ⟨μ5, w11⟩, w12, w13⟩ := w
  have ex15 : ∀ (σ2 : sg_S), sg_F [125, 61088] σ σ2 → X6 σ2 → wx z 2 223 228 [(0, .inr (.inr (.ref 88))), (1, .inl (b1)), (4, .inl ((sg_g σ 88 60)))] [] σ2 (fun v σ' => v = none ∧ sg_F [122, 123, 124, 125, 129, 131, 133, 55088, 56088, 57088, 61088, 63088, 71088, 74088] σ σ' ∧ Q σ') := by
    intro σ2 hF3 w
    have w := w13 σ2 hF3 w
    refine wk_b tt_223 5 (pc' := 236) (ls' := [(0, .inr (.inr (.ref 88))), (1, .inl (b1)), (4, .inl ((sg_g σ 88 60)))]) (st' := [.inl (b1), .inr (.inr (.ref 96)), .inl ((sg_g σ 88 60)), .inr (.inr (.ref 88))]) (σ' := σ2) rfl ?_
    obtain ⟨c16, w⟩ := w
    refine wk_ia tt_223 rfl rfl c16.1 c16.2 rb1 ?_
    rw [show (sg_g σ2 96 (b1)) = (sg_g σ 96 (b1)) from by rw [sg_F_ga hF3 rfl]]
    refine wk_b tt_223 3 (pc' := 242) (ls' := [(0, .inr (.inr (.ref 88))), (1, .inl (b1)), (4, .inl ((sg_g σ 88 60)))]) (st' := [.inl (b1), .inr (.inr (.ref 101)), .inl ((sg_g σ 96 (b1))), .inl ((sg_g σ 88 60)), .inr (.inr (.ref 88))]) (σ' := σ2) rfl ?_
    refine wk_ia tt_223 rfl rfl c16.1 c16.2 rb1 ?_
    rw [show (sg_g σ2 101 (b1)) = (sg_g σ 101 (b1)) from by rw [sg_F_ga hF3 rfl]]
    refine wk_call tt_223 rfl rfl rfl rfl rfl tt_323 rfl (by decide) (w_seq z σ2 ((sg_g σ 88 60)) ((sg_g σ 96 (b1))) ((sg_g σ 101 (b1))) _ (sg_Rg _ _ _) (sg_Rg _ _ _) (sg_Rg _ _ _) w) (fun u22 σ18 hq20 => ?_)
    obtain ⟨q17, rfl, r21, hF19, w⟩ := hq20
    have w := w r21 hF19
    refine wk_b tt_223 4 (pc' := 366) (ls' := [(3, .inl (q17)), (0, .inr (.inr (.ref 88))), (1, .inl (b1)), (4, .inl ((sg_g σ 88 60)))]) (st' := [.inl ((sg_g σ18 88 73))]) (σ' := σ18) rfl ?_
    rw [show (sg_g σ18 88 73) = (sg_g σ 88 73) from by rw [sg_F_g hF19 rfl, sg_F_g hF3 rfl]]
    refine wk_if tt_223 (tgt := 374) rfl rfl (sg_Rg _ _ _) (fun (h23 : ¬ (sg_g σ 88 73) = 0) => ?_) (fun (h23 : (sg_g σ 88 73) = 0) => ?_)
    ·
      have w := w.1 h23
      exact wk_rV tt_223 rfl rfl ⟨rfl, (sg_F_t (sg_F_t (sg_F_r [122, 123, 124, 125, 129, 131, 133, 55088, 56088, 57088, 61088, 63088, 71088, 74088] σ) (sg_F_m (L := [122, 123, 124, 125, 129, 131, 133, 55088, 56088, 57088, 61088, 63088, 71088, 74088]) hF3 rfl)) (sg_F_m (L := [122, 123, 124, 125, 129, 131, 133, 55088, 56088, 57088, 61088, 63088, 71088, 74088]) hF19 rfl)), w⟩
    ·
      have w := w.2 h23
      refine wk_b tt_223 2 (pc' := 371) (ls' := [(3, .inl (q17)), (0, .inr (.inr (.ref 88))), (1, .inl (b1)), (4, .inl ((sg_g σ 88 60)))]) (st' := [.inl (q17), .inr (.inr (.ref 88))]) (σ' := σ18) rfl ?_
      refine wk_call tt_223 rfl rfl rfl rfl rfl tt_278 rfl (by decide) (w_leave z σ18 (q17) _ r21 w) (fun u29 σ25 hq27 => ?_)
      obtain ⟨rfl, hF26, w⟩ := hq27
      have w := w hF26
      exact wk_rV tt_223 rfl rfl ⟨rfl, (sg_F_t (sg_F_t (sg_F_t (sg_F_r [122, 123, 124, 125, 129, 131, 133, 55088, 56088, 57088, 61088, 63088, 71088, 74088] σ) (sg_F_m (L := [122, 123, 124, 125, 129, 131, 133, 55088, 56088, 57088, 61088, 63088, 71088, 74088]) hF3 rfl)) (sg_F_m (L := [122, 123, 124, 125, 129, 131, 133, 55088, 56088, 57088, 61088, 63088, 71088, 74088]) hF19 rfl)) (sg_F_m (L := [122, 123, 124, 125, 129, 131, 133, 55088, 56088, 57088, 61088, 63088, 71088, 74088]) hF26 rfl)), w⟩
  have lp10 : ∀ (n14 : Nat) (v1 : Int) (σ2 : sg_S), sg_R v1 → sg_F [125, 61088] σ σ2 → I4 n14 v1 σ2 → wx z 2 223 198 [(0, .inr (.inr (.ref 88))), (1, .inl (b1)), (2, .inl (b2)), (4, .inl ((sg_g σ 88 60))), (5, .inl (v1))] [] σ2 (fun v σ' => v = none ∧ sg_F [122, 123, 124, 125, 129, 131, 133, 55088, 56088, 57088, 61088, 63088, 71088, 74088] σ σ' ∧ Q σ') := by
    intro n14
    induction n14 using Nat.strongRecOn with
    | _ n14 ih8 =>
      intro v1 σ2 r7 hF3 w
      have w := w12 n14 v1 σ2 r7 hF3 w
      refine wk_b tt_223 4 (pc' := 205) (ls' := [(0, .inr (.inr (.ref 88))), (1, .inl (b1)), (2, .inl (b2)), (4, .inl ((sg_g σ 88 60))), (5, .inl (v1))]) (st' := [.inl (b1), .inr (.inr (.ref 96)), .inl (v1)]) (σ' := σ2) rfl ?_
      obtain ⟨c30, w⟩ := w
      refine wk_ia tt_223 rfl rfl c30.1 c30.2 rb1 ?_
      rw [show (sg_g σ2 96 (b1)) = (sg_g σ 96 (b1)) from by rw [sg_F_ga hF3 rfl]]
      refine wk_if2 tt_223 (tgt := 228) rfl rfl r7 (sg_Rg _ _ _) (fun (h31 : (sg_g σ 96 (b1)) ≤ v1) => ?_) (fun (h31 : v1 < (sg_g σ 96 (b1))) => ?_)
      ·
        have w := w.1 h31
        exact wk_ls [(0, .inr (.inr (.ref 88))), (1, .inl (b1)), (4, .inl ((sg_g σ 88 60)))] rfl ⟨rfl, rfl, rfl, trivial⟩ (ex15  σ2  (sg_F_t (sg_F_r [125, 61088] σ) (sg_F_m (L := [125, 61088]) hF3 rfl)) w)
      ·
        have w := w.2 h31
        obtain ⟨c32, w⟩ := w
        refine wk_b tt_223 6 (pc' := 218) (ls' := [(0, .inr (.inr (.ref 88))), (1, .inl (b1)), (2, .inl (b2)), (4, .inl ((sg_g σ 88 60))), (5, .inl (v1))]) (st' := [.inl ((b2 + v1)), .inr (.inr (.ref 133)), .inr (.inr (.ref 88))]) (σ' := σ2) rfl ?_
        obtain ⟨c33, w⟩ := w
        refine wk_ia tt_223 rfl rfl c33.1 c33.2 c32 ?_
        rw [show (sg_g σ2 133 ((b2 + v1))) = (sg_g σ 133 ((b2 + v1))) from by rw [sg_F_ga hF3 rfl]]
        refine wk_call tt_223 rfl rfl rfl rfl rfl tt_212 rfl (by decide) (w_add z σ2 ((sg_g σ 133 ((b2 + v1)))) _ (sg_Rg _ _ _) w) (fun u39 σ35 hq37 => ?_)
        obtain ⟨rfl, hF36, w⟩ := hq37
        have w := w hF36
        obtain ⟨c40, w⟩ := w
        refine wk_b tt_223 2 (pc' := 198) (ls' := [(5, .inl ((v1 + 1))), (0, .inr (.inr (.ref 88))), (1, .inl (b1)), (2, .inl (b2)), (4, .inl ((sg_g σ 88 60)))]) (st' := []) (σ' := σ35) rfl ?_
        obtain ⟨m41, hm41, w⟩ := w
        exact wk_ls [(0, .inr (.inr (.ref 88))), (1, .inl (b1)), (2, .inl (b2)), (4, .inl ((sg_g σ 88 60))), (5, .inl ((v1 + 1)))] rfl ⟨rfl, rfl, rfl, rfl, rfl, trivial⟩ (ih8 m41 hm41 ((v1 + 1)) σ35 c40 (sg_F_t (sg_F_t (sg_F_r [125, 61088] σ) (sg_F_m (L := [125, 61088]) hF3 rfl)) (sg_F_m (L := [125, 61088]) hF36 rfl)) w)
  exact wk_ls [(0, .inr (.inr (.ref 88))), (1, .inl (b1)), (2, .inl (b2)), (4, .inl ((sg_g σ 88 60))), (5, .inl (0))] rfl ⟨rfl, rfl, rfl, rfl, rfl, trivial⟩ (lp10 μ5 (0) σ (by decide) (sg_F_r _ _) w11)
-- NestedVectorsModel.operated
def v_operated  (a1 : Int) (a2 : Int) (a3 : Int) : Int := (if a1 = 4 then (if a3 ≤ a2 then (0 : Int) else (1 : Int)) else (if a1 = 5 then (if ¬ a2 = a3 then (0 : Int) else (1 : Int)) else (if a1 = 6 then (sg_n (a2 + a3)) else (if a1 = 7 then (sg_n (a2 - a3)) else (if a1 = 8 then (sg_n (a2 * a3)) else (if ¬ a3 = 0 then (if ¬ a1 = 9 then ((sg_i (a2) - sg_i (a2) / sg_i (a3) * sg_i (a3)).toInt) else ((sg_i (a2) / sg_i (a3)).toInt)) else (0 : Int)))))))
def p_operated  (a1 : Int) (a2 : Int) (a3 : Int) : Prop := ((a1 = 4 → ((a3 ≤ a2 → True) ∧ (a2 < a3 → True))) ∧ (¬ a1 = 4 → ((a1 = 5 → ((¬ a2 = a3 → True) ∧ (a2 = a3 → True))) ∧ (¬ a1 = 5 → ((a1 = 6 → True) ∧ (¬ a1 = 6 → ((a1 = 7 → True) ∧ (¬ a1 = 7 → ((a1 = 8 → True) ∧ (¬ a1 = 8 → ((¬ a3 = 0 → ((¬ a1 = 9 → (¬ a3 = 0) ∧ True) ∧ (a1 = 9 → (¬ a3 = 0) ∧ True))) ∧ (a3 = 0 → True))))))))))))
set_option maxHeartbeats 4000000 in
set_option maxRecDepth 8000 in
theorem w_operated (z : Value) (σ : sg_S) (a1 : Int) (a2 : Int) (a3 : Int) (ra1 : sg_R a1) (ra2 : sg_R a2) (ra3 : sg_R a3) (w : p_operated a1 a2 a3) : wx z 0 299 0 [(0, .inr (.inr (.ref 88))), (1, .inl (a1)), (2, .inl (a2)), (3, .inl (a3))] [] σ (fun v σ' => v = some (.inl (v_operated a1 a2 a3)) ∧ σ' = σ) := by
  unfold p_operated at w
  refine wk_b tt_299 1 (pc' := 1) (ls' := [(0, .inr (.inr (.ref 88))), (1, .inl (a1)), (2, .inl (a2)), (3, .inl (a3))]) (st' := [.inl (a1)]) (σ' := σ) rfl ?_
  by_cases e1 : a1 = 4
  · have w := w.1 e1
    refine wk_ts tt_299 (off := 35) (tgt := 36) rfl ra1 (by rw [e1]; decide) rfl ?_
    refine wk_b tt_299 2 (pc' := 38) (ls' := [(0, .inr (.inr (.ref 88))), (1, .inl (a1)), (2, .inl (a2)), (3, .inl (a3))]) (st' := [.inl (a3), .inl (a2)]) (σ' := σ) rfl ?_
    refine wk_if2 tt_299 (tgt := 45) rfl rfl ra2 ra3 (fun (h3 : a3 ≤ a2) => ?_) (fun (h3 : a2 < a3) => ?_)
    ·
      have w := w.1 h3
      refine wk_b tt_299 1 (pc' := 46) (ls' := [(0, .inr (.inr (.ref 88))), (1, .inl (a1)), (2, .inl (a2)), (3, .inl (a3))]) (st' := [.inl (0)]) (σ' := σ) rfl ?_
      exact wk_rI tt_299 rfl rfl ⟨by rw [v_operated, if_pos e1, if_pos h3], rfl⟩
    ·
      have w := w.2 h3
      refine wk_b tt_299 2 (pc' := 46) (ls' := [(0, .inr (.inr (.ref 88))), (1, .inl (a1)), (2, .inl (a2)), (3, .inl (a3))]) (st' := [.inl (1)]) (σ' := σ) rfl ?_
      exact wk_rI tt_299 rfl rfl ⟨by rw [v_operated, if_pos e1, if_neg (show ¬ (a3 ≤ a2) by omega)], rfl⟩
  have w := w.2 e1
  by_cases e4 : a1 = 5
  · have w := w.1 e4
    refine wk_ts tt_299 (off := 46) (tgt := 47) rfl ra1 (by rw [e4]; decide) rfl ?_
    refine wk_b tt_299 2 (pc' := 49) (ls' := [(0, .inr (.inr (.ref 88))), (1, .inl (a1)), (2, .inl (a2)), (3, .inl (a3))]) (st' := [.inl (a3), .inl (a2)]) (σ' := σ) rfl ?_
    refine wk_if2 tt_299 (tgt := 56) rfl rfl ra2 ra3 (fun (h6 : ¬ a2 = a3) => ?_) (fun (h6 : a2 = a3) => ?_)
    ·
      have w := w.1 h6
      refine wk_b tt_299 1 (pc' := 57) (ls' := [(0, .inr (.inr (.ref 88))), (1, .inl (a1)), (2, .inl (a2)), (3, .inl (a3))]) (st' := [.inl (0)]) (σ' := σ) rfl ?_
      exact wk_rI tt_299 rfl rfl ⟨by rw [v_operated, if_neg e1, if_pos e4, if_pos h6], rfl⟩
    ·
      have w := w.2 h6
      refine wk_b tt_299 2 (pc' := 57) (ls' := [(0, .inr (.inr (.ref 88))), (1, .inl (a1)), (2, .inl (a2)), (3, .inl (a3))]) (st' := [.inl (1)]) (σ' := σ) rfl ?_
      exact wk_rI tt_299 rfl rfl ⟨by rw [v_operated, if_neg e1, if_pos e4, if_neg (show ¬ (¬ a2 = a3) by omega)], rfl⟩
  have w := w.2 e4
  by_cases e7 : a1 = 6
  · have w := w.1 e7
    refine wk_ts tt_299 (off := 57) (tgt := 58) rfl ra1 (by rw [e7]; decide) rfl ?_
    refine wk_b tt_299 3 (pc' := 61) (ls' := [(0, .inr (.inr (.ref 88))), (1, .inl (a1)), (2, .inl (a2)), (3, .inl (a3))]) (st' := [.inl ((a2 + a3))]) (σ' := σ) rfl ?_
    refine wk_n ?_
    exact wk_rI tt_299 rfl rfl ⟨by rw [v_operated, if_neg e1, if_neg e4, if_pos e7], rfl⟩
  have w := w.2 e7
  by_cases e9 : a1 = 7
  · have w := w.1 e9
    refine wk_ts tt_299 (off := 61) (tgt := 62) rfl ra1 (by rw [e9]; decide) rfl ?_
    refine wk_b tt_299 3 (pc' := 65) (ls' := [(0, .inr (.inr (.ref 88))), (1, .inl (a1)), (2, .inl (a2)), (3, .inl (a3))]) (st' := [.inl ((a2 - a3))]) (σ' := σ) rfl ?_
    refine wk_n ?_
    exact wk_rI tt_299 rfl rfl ⟨by rw [v_operated, if_neg e1, if_neg e4, if_neg e7, if_pos e9], rfl⟩
  have w := w.2 e9
  by_cases e11 : a1 = 8
  · have w := w.1 e11
    refine wk_ts tt_299 (off := 65) (tgt := 66) rfl ra1 (by rw [e11]; decide) rfl ?_
    refine wk_b tt_299 3 (pc' := 69) (ls' := [(0, .inr (.inr (.ref 88))), (1, .inl (a1)), (2, .inl (a2)), (3, .inl (a3))]) (st' := [.inl ((a2 * a3))]) (σ' := σ) rfl ?_
    refine wk_n ?_
    exact wk_rI tt_299 rfl rfl ⟨by rw [v_operated, if_neg e1, if_neg e4, if_neg e7, if_neg e9, if_pos e11], rfl⟩
  have w := w.2 e11
  refine wk_ts tt_299 (off := 69) (tgt := 70) rfl ra1 (by rcases sw_lo (a1) 4 with h | h; (unfold bm_swt; rw [if_pos (Or.inl h)]); (unfold bm_swt; rw [if_pos (Or.inr (Int.lt_of_add_one_le (sw_st (k := 8) (sw_st (k := 7) (sw_st (k := 6) (sw_st (k := 5) (sw_st (k := 4) h e1) e4) e7) e9) e11)))])) rfl ?_
  refine wk_b tt_299 1 (pc' := 71) (ls' := [(0, .inr (.inr (.ref 88))), (1, .inl (a1)), (2, .inl (a2)), (3, .inl (a3))]) (st' := [.inl (a3)]) (σ' := σ) rfl ?_
  refine wk_if tt_299 (tgt := 78) rfl rfl ra3 (fun (h13 : ¬ a3 = 0) => ?_) (fun (h13 : a3 = 0) => ?_)
  ·
    have w := w.1 h13
    refine wk_b tt_299 2 (pc' := 81) (ls' := [(0, .inr (.inr (.ref 88))), (1, .inl (a1)), (2, .inl (a2)), (3, .inl (a3))]) (st' := [.inl (9), .inl (a1)]) (σ' := σ) rfl ?_
    refine wk_if2 tt_299 (tgt := 90) rfl rfl ra1 (by decide) (fun (h14 : ¬ a1 = 9) => ?_) (fun (h14 : a1 = 9) => ?_)
    ·
      have w := w.1 h14
      refine wk_b tt_299 2 (pc' := 92) (ls' := [(0, .inr (.inr (.ref 88))), (1, .inl (a1)), (2, .inl (a2)), (3, .inl (a3))]) (st' := [.inl (a3), .inl (a2)]) (σ' := σ) rfl ?_
      obtain ⟨c15, w⟩ := w
      refine wk_rem tt_299 rfl (by rw [sg_id ra3]; exact c15) ?_
      exact wk_rI tt_299 rfl rfl ⟨by rw [v_operated, if_neg e1, if_neg e4, if_neg e7, if_neg e9, if_neg e11, if_pos h13, if_pos h14], rfl⟩
    ·
      have w := w.2 h14
      refine wk_b tt_299 2 (pc' := 86) (ls' := [(0, .inr (.inr (.ref 88))), (1, .inl (a1)), (2, .inl (a2)), (3, .inl (a3))]) (st' := [.inl (a3), .inl (a2)]) (σ' := σ) rfl ?_
      obtain ⟨c16, w⟩ := w
      refine wk_div tt_299 rfl (by rw [sg_id ra3]; exact c16) ?_
      refine wk_b tt_299 1 (pc' := 93) (ls' := [(0, .inr (.inr (.ref 88))), (1, .inl (a1)), (2, .inl (a2)), (3, .inl (a3))]) (st' := [.inl (((sg_i (a2) / sg_i (a3)).toInt))]) (σ' := σ) rfl ?_
      exact wk_rI tt_299 rfl rfl ⟨by rw [v_operated, if_neg e1, if_neg e4, if_neg e7, if_neg e9, if_neg e11, if_pos h13, if_neg (show ¬ (¬ a1 = 9) by omega)], rfl⟩
  ·
    have w := w.2 h13
    refine wk_b tt_299 2 (pc' := 93) (ls' := [(0, .inr (.inr (.ref 88))), (1, .inl (a1)), (2, .inl (a2)), (3, .inl (a3))]) (st' := [.inl (0)]) (σ' := σ) rfl ?_
    exact wk_rI tt_299 rfl rfl ⟨by rw [v_operated, if_neg e1, if_neg e4, if_neg e7, if_neg e9, if_neg e11, if_neg (show ¬ (¬ a3 = 0) by omega)], rfl⟩
theorem vr_operated  (a1 : Int) (a2 : Int) (a3 : Int) (ra1 : sg_R a1) (ra2 : sg_R a2) (ra3 : sg_R a3) (w : p_operated a1 a2 a3) : sg_R (v_operated a1 a2 a3) := by
  unfold v_operated
  unfold p_operated at w
  by_cases h : a1 = 4
  · rw [if_pos h]
    first | (have w := w.1 h) | (have w := w.2.1 h) | (have w := w.2.2.1 h) | skip
    by_cases h : a3 ≤ a2
    · rw [if_pos h]
      first | (have w := w.1 h) | (have w := w.2.1 h) | (have w := w.2.2.1 h) | skip
      decide
    · rw [if_neg h]
      first | (have w := w.2 (by omega)) | (have w := w.2.2 (by omega)) | (have w := w.2.2.2 (by omega)) | skip
      decide
  · rw [if_neg h]
    first | (have w := w.2 (by omega)) | (have w := w.2.2 (by omega)) | (have w := w.2.2.2 (by omega)) | skip
    by_cases h : a1 = 5
    · rw [if_pos h]
      first | (have w := w.1 h) | (have w := w.2.1 h) | (have w := w.2.2.1 h) | skip
      by_cases h : ¬ a2 = a3
      · rw [if_pos h]
        first | (have w := w.1 h) | (have w := w.2.1 h) | (have w := w.2.2.1 h) | skip
        decide
      · rw [if_neg h]
        first | (have w := w.2 (by omega)) | (have w := w.2.2 (by omega)) | (have w := w.2.2.2 (by omega)) | skip
        decide
    · rw [if_neg h]
      first | (have w := w.2 (by omega)) | (have w := w.2.2 (by omega)) | (have w := w.2.2.2 (by omega)) | skip
      by_cases h : a1 = 6
      · rw [if_pos h]
        first | (have w := w.1 h) | (have w := w.2.1 h) | (have w := w.2.2.1 h) | skip
        first | exact sg_Rn _ | exact w.1 | exact w.2.1 | exact w.2.2.1 | exact sg_Rg _ _ _ | exact sg_Rgl _ _ _ | exact sg_Rr _ | exact sg_RLr _ | assumption | omega | (constructor <;> omega)
      · rw [if_neg h]
        first | (have w := w.2 (by omega)) | (have w := w.2.2 (by omega)) | (have w := w.2.2.2 (by omega)) | skip
        by_cases h : a1 = 7
        · rw [if_pos h]
          first | (have w := w.1 h) | (have w := w.2.1 h) | (have w := w.2.2.1 h) | skip
          first | exact sg_Rn _ | exact w.1 | exact w.2.1 | exact w.2.2.1 | exact sg_Rg _ _ _ | exact sg_Rgl _ _ _ | exact sg_Rr _ | exact sg_RLr _ | assumption | omega | (constructor <;> omega)
        · rw [if_neg h]
          first | (have w := w.2 (by omega)) | (have w := w.2.2 (by omega)) | (have w := w.2.2.2 (by omega)) | skip
          by_cases h : a1 = 8
          · rw [if_pos h]
            first | (have w := w.1 h) | (have w := w.2.1 h) | (have w := w.2.2.1 h) | skip
            first | exact sg_Rn _ | exact w.1 | exact w.2.1 | exact w.2.2.1 | exact sg_Rg _ _ _ | exact sg_Rgl _ _ _ | exact sg_Rr _ | exact sg_RLr _ | assumption | omega | (constructor <;> omega)
          · rw [if_neg h]
            first | (have w := w.2 (by omega)) | (have w := w.2.2 (by omega)) | (have w := w.2.2.2 (by omega)) | skip
            by_cases h : ¬ a3 = 0
            · rw [if_pos h]
              first | (have w := w.1 h) | (have w := w.2.1 h) | (have w := w.2.2.1 h) | skip
              by_cases h : ¬ a1 = 9
              · rw [if_pos h]
                first | (have w := w.1 h) | (have w := w.2.1 h) | (have w := w.2.2.1 h) | skip
                first | exact sg_Rn _ | exact w.1 | exact w.2.1 | exact w.2.2.1 | exact sg_Rg _ _ _ | exact sg_Rgl _ _ _ | exact sg_Rr _ | exact sg_RLr _ | assumption | omega | (constructor <;> omega)
              · rw [if_neg h]
                first | (have w := w.2 (by omega)) | (have w := w.2.2 (by omega)) | (have w := w.2.2.2 (by omega)) | skip
                first | exact sg_Rn _ | exact w.1 | exact w.2.1 | exact w.2.2.1 | exact sg_Rg _ _ _ | exact sg_Rgl _ _ _ | exact sg_Rr _ | exact sg_RLr _ | assumption | omega | (constructor <;> omega)
            · rw [if_neg h]
              first | (have w := w.2 (by omega)) | (have w := w.2.2 (by omega)) | (have w := w.2.2.2 (by omega)) | skip
              decide
-- NestedVectorsModel.endNested
def V_endNested_d (σ : sg_S) (b1 : Int) (b2 : Int) (Q : sg_S → Prop) : Prop := (0 ≤ b1 ∧ b1 < 210) ∧ ((11 ≤ (sg_g σ 93 (b1)) → (0 ≤ b2 ∧ b2 < 12000) ∧ (((sg_g σ 96 (b1)) ≤ 1 → True) ∧ (1 < (sg_g σ 96 (b1)) → sg_R (b2 + 1) ∧ (0 ≤ (b2 + 1) ∧ (b2 + 1) < 12000) ∧ True)) ∧ ∀ v6 : Int, v6 = (if (sg_g σ 96 (b1)) ≤ 1 then (0 : Int) else (sg_g σ 133 ((b2 + 1)))) → sg_R v6 → V_acted σ (b1) ((sg_g σ 133 (b2))) (v6) (fun q9 σ10 => sg_R q9 → sg_F [122, 123, 124, 125, 135, 57088, 61088, 74088] σ σ10 → ((¬ (sg_g σ10 88 73) = 0 → Q σ10) ∧ ((sg_g σ10 88 73) = 0 → V_leave σ10 (q9) (fun σ17 => sg_F [129, 131, 133, 55088, 56088, 63088, 71088, 74088] σ10 σ17 → Q σ17))))) ∧ ((sg_g σ 93 (b1)) < 11 → (((sg_g σ 93 (b1)) = 9 → sg_R (b2 + 1) ∧ (0 ≤ (b2 + 1) ∧ (b2 + 1) < 12000) ∧ ((¬ (sg_g σ 133 ((b2 + 1))) = 0 → (0 ≤ b2 ∧ b2 < 12000) ∧ p_operated ((sg_g σ 93 (b1))) ((sg_g σ 133 (b2))) ((sg_g σ 133 ((b2 + 1)))) ∧ ((¬ (sg_g σ 88 73) = 0 → Q σ) ∧ ((sg_g σ 88 73) = 0 → V_leave σ ((v_operated ((sg_g σ 93 (b1))) ((sg_g σ 133 (b2))) ((sg_g σ 133 ((b2 + 1)))))) (fun σ33 => sg_F [129, 131, 133, 55088, 56088, 63088, 71088, 74088] σ σ33 → Q σ33)))) ∧ ((sg_g σ 133 ((b2 + 1))) = 0 → V_ends σ (1) (fun σ39 => sg_F [74088] σ σ39 → Q σ39)))) ∧ (¬ (sg_g σ 93 (b1)) = 9 → ((¬ (sg_g σ 93 (b1)) = 10 → (0 ≤ b2 ∧ b2 < 12000) ∧ sg_R (b2 + 1) ∧ (0 ≤ (b2 + 1) ∧ (b2 + 1) < 12000) ∧ p_operated ((sg_g σ 93 (b1))) ((sg_g σ 133 (b2))) ((sg_g σ 133 ((b2 + 1)))) ∧ ((¬ (sg_g σ 88 73) = 0 → Q σ) ∧ ((sg_g σ 88 73) = 0 → V_leave σ ((v_operated ((sg_g σ 93 (b1))) ((sg_g σ 133 (b2))) ((sg_g σ 133 ((b2 + 1)))))) (fun σ52 => sg_F [129, 131, 133, 55088, 56088, 63088, 71088, 74088] σ σ52 → Q σ52)))) ∧ ((sg_g σ 93 (b1)) = 10 → sg_R (b2 + 1) ∧ (0 ≤ (b2 + 1) ∧ (b2 + 1) < 12000) ∧ ((¬ (sg_g σ 133 ((b2 + 1))) = 0 → (0 ≤ b2 ∧ b2 < 12000) ∧ p_operated ((sg_g σ 93 (b1))) ((sg_g σ 133 (b2))) ((sg_g σ 133 ((b2 + 1)))) ∧ ((¬ (sg_g σ 88 73) = 0 → Q σ) ∧ ((sg_g σ 88 73) = 0 → V_leave σ ((v_operated ((sg_g σ 93 (b1))) ((sg_g σ 133 (b2))) ((sg_g σ 133 ((b2 + 1)))))) (fun σ65 => sg_F [129, 131, 133, 55088, 56088, 63088, 71088, 74088] σ σ65 → Q σ65)))) ∧ ((sg_g σ 133 ((b2 + 1))) = 0 → V_ends σ (1) (fun σ71 => sg_F [74088] σ σ71 → Q σ71)))))))))
set_option maxHeartbeats 4000000 in
set_option maxRecDepth 8000 in
theorem w_endNested_d (z : Value) (σ : sg_S) (b1 : Int) (b2 : Int) (Q : sg_S → Prop) (rb1 : sg_R b1) (rb2 : sg_R b2) (w : V_endNested_d σ b1 b2 Q) : wx z 4 223 250 [(0, .inr (.inr (.ref 88))), (1, .inl (b1)), (2, .inl (b2))] [] σ (fun v σ' => v = none ∧ sg_F [122, 123, 124, 125, 129, 131, 133, 135, 55088, 56088, 57088, 61088, 63088, 71088, 74088] σ σ' ∧ Q σ') := by
  unfold V_endNested_d at w
  refine wk_b tt_223 3 (pc' := 255) (ls' := [(0, .inr (.inr (.ref 88))), (1, .inl (b1)), (2, .inl (b2))]) (st' := [.inl (b1), .inr (.inr (.ref 93))]) (σ' := σ) rfl ?_
  obtain ⟨c1, w⟩ := w
  refine wk_ia tt_223 rfl rfl c1.1 c1.2 rb1 ?_
  refine wk_b tt_223 1 (pc' := 258) (ls' := [(0, .inr (.inr (.ref 88))), (1, .inl (b1)), (2, .inl (b2))]) (st' := [.inl (11), .inl ((sg_g σ 93 (b1)))]) (σ' := σ) rfl ?_
  refine wk_if2 tt_223 (tgt := 328) rfl rfl (sg_Rg _ _ _) (by decide) (fun (h2 : 11 ≤ (sg_g σ 93 (b1))) => ?_) (fun (h2 : (sg_g σ 93 (b1)) < 11) => ?_)
  ·
    have w := w.1 h2
    refine wk_b tt_223 5 (pc' := 335) (ls' := [(0, .inr (.inr (.ref 88))), (1, .inl (b1)), (2, .inl (b2))]) (st' := [.inl (b2), .inr (.inr (.ref 133)), .inl (b1), .inr (.inr (.ref 88))]) (σ' := σ) rfl ?_
    obtain ⟨c3, w⟩ := w
    refine wk_ia tt_223 rfl rfl c3.1 c3.2 rb2 ?_
    refine wk_b tt_223 3 (pc' := 341) (ls' := [(0, .inr (.inr (.ref 88))), (1, .inl (b1)), (2, .inl (b2))]) (st' := [.inl (b1), .inr (.inr (.ref 96)), .inl ((sg_g σ 133 (b2))), .inl (b1), .inr (.inr (.ref 88))]) (σ' := σ) rfl ?_
    refine wk_ia tt_223 rfl rfl c1.1 c1.2 rb1 ?_
    refine wk_b tt_223 1 (pc' := 343) (ls' := [(0, .inr (.inr (.ref 88))), (1, .inl (b1)), (2, .inl (b2))]) (st' := [.inl (1), .inl ((sg_g σ 96 (b1))), .inl ((sg_g σ 133 (b2))), .inl (b1), .inr (.inr (.ref 88))]) (σ' := σ) rfl ?_
    obtain ⟨wp, w⟩ := w
    have jn5 : ∀ v6 : Int, v6 = (if (sg_g σ 96 (b1)) ≤ 1 then (0 : Int) else (sg_g σ 133 ((b2 + 1)))) → sg_R v6 → wx z 4 223 358 [(0, .inr (.inr (.ref 88)))] [.inl (v6), .inl ((sg_g σ 133 (b2))), .inl (b1), .inr (.inr (.ref 88))] σ (fun v σ' => v = none ∧ sg_F [122, 123, 124, 125, 129, 131, 133, 135, 55088, 56088, 57088, 61088, 63088, 71088, 74088] σ σ' ∧ Q σ') := by
      intro v6 e8 r7
      have w := w v6 e8 r7
      refine wk_call tt_223 rfl rfl rfl rfl rfl tt_211 rfl (by decide) (w_acted z σ (b1) ((sg_g σ 133 (b2))) (v6) _ rb1 (sg_Rg _ _ _) r7 w) (fun u14 σ10 hq12 => ?_)
      obtain ⟨q9, rfl, r13, hF11, w⟩ := hq12
      have w := w r13 hF11
      refine wk_b tt_223 3 (pc' := 366) (ls' := [(3, .inl (q9)), (0, .inr (.inr (.ref 88)))]) (st' := [.inl ((sg_g σ10 88 73))]) (σ' := σ10) rfl ?_
      refine wk_if tt_223 (tgt := 374) rfl rfl (sg_Rg _ _ _) (fun (h15 : ¬ (sg_g σ10 88 73) = 0) => ?_) (fun (h15 : (sg_g σ10 88 73) = 0) => ?_)
      ·
        have w := w.1 h15
        exact wk_rV tt_223 rfl rfl ⟨rfl, (sg_F_t (sg_F_r [122, 123, 124, 125, 129, 131, 133, 135, 55088, 56088, 57088, 61088, 63088, 71088, 74088] σ) (sg_F_m (L := [122, 123, 124, 125, 129, 131, 133, 135, 55088, 56088, 57088, 61088, 63088, 71088, 74088]) hF11 rfl)), w⟩
      ·
        have w := w.2 h15
        refine wk_b tt_223 2 (pc' := 371) (ls' := [(3, .inl (q9)), (0, .inr (.inr (.ref 88)))]) (st' := [.inl (q9), .inr (.inr (.ref 88))]) (σ' := σ10) rfl ?_
        refine wk_call tt_223 rfl rfl rfl rfl rfl tt_278 rfl (by decide) (w_leave z σ10 (q9) _ r13 w) (fun u21 σ17 hq19 => ?_)
        obtain ⟨rfl, hF18, w⟩ := hq19
        have w := w hF18
        exact wk_rV tt_223 rfl rfl ⟨rfl, (sg_F_t (sg_F_t (sg_F_r [122, 123, 124, 125, 129, 131, 133, 135, 55088, 56088, 57088, 61088, 63088, 71088, 74088] σ) (sg_F_m (L := [122, 123, 124, 125, 129, 131, 133, 135, 55088, 56088, 57088, 61088, 63088, 71088, 74088]) hF11 rfl)) (sg_F_m (L := [122, 123, 124, 125, 129, 131, 133, 135, 55088, 56088, 57088, 61088, 63088, 71088, 74088]) hF18 rfl)), w⟩
    have w := wp
    refine wk_if2 tt_223 (tgt := 357) rfl rfl (sg_Rg _ _ _) (by decide) (fun (h4 : (sg_g σ 96 (b1)) ≤ 1) => ?_) (fun (h4 : 1 < (sg_g σ 96 (b1))) => ?_)
    ·
      have w := w.1 h4
      refine wk_b tt_223 1 (pc' := 358) (ls' := [(0, .inr (.inr (.ref 88))), (1, .inl (b1)), (2, .inl (b2))]) (st' := [.inl (0), .inl ((sg_g σ 133 (b2))), .inl (b1), .inr (.inr (.ref 88))]) (σ' := σ) rfl ?_
      exact wk_ls [(0, .inr (.inr (.ref 88)))] rfl ⟨rfl, trivial⟩ (jn5 (0) (by simp only [if_pos h4]) (by decide))
    ·
      have w := w.2 h4
      obtain ⟨c22, w⟩ := w
      refine wk_b tt_223 5 (pc' := 353) (ls' := [(0, .inr (.inr (.ref 88))), (1, .inl (b1)), (2, .inl (b2))]) (st' := [.inl ((b2 + 1)), .inr (.inr (.ref 133)), .inl ((sg_g σ 133 (b2))), .inl (b1), .inr (.inr (.ref 88))]) (σ' := σ) rfl ?_
      obtain ⟨c23, w⟩ := w
      refine wk_ia tt_223 rfl rfl c23.1 c23.2 c22 ?_
      refine wk_b tt_223 1 (pc' := 358) (ls' := [(0, .inr (.inr (.ref 88))), (1, .inl (b1)), (2, .inl (b2))]) (st' := [.inl ((sg_g σ 133 ((b2 + 1)))), .inl ((sg_g σ 133 (b2))), .inl (b1), .inr (.inr (.ref 88))]) (σ' := σ) rfl ?_
      exact wk_ls [(0, .inr (.inr (.ref 88)))] rfl ⟨rfl, trivial⟩ (jn5 ((sg_g σ 133 ((b2 + 1)))) (by simp only [if_neg (show ¬ ((sg_g σ 96 (b1)) ≤ 1) by omega)]) (sg_Rg _ _ _))
  ·
    have w := w.2 h2
    refine wk_b tt_223 3 (pc' := 266) (ls' := [(0, .inr (.inr (.ref 88))), (1, .inl (b1)), (2, .inl (b2))]) (st' := [.inl (b1), .inr (.inr (.ref 93))]) (σ' := σ) rfl ?_
    refine wk_ia tt_223 rfl rfl c1.1 c1.2 rb1 ?_
    refine wk_b tt_223 1 (pc' := 269) (ls' := [(0, .inr (.inr (.ref 88))), (1, .inl (b1)), (2, .inl (b2))]) (st' := [.inl (9), .inl ((sg_g σ 93 (b1)))]) (σ' := σ) rfl ?_
    refine wk_if2 tt_223 (tgt := 283) rfl rfl (sg_Rg _ _ _) (by decide) (fun (h24 : (sg_g σ 93 (b1)) = 9) => ?_) (fun (h24 : ¬ (sg_g σ 93 (b1)) = 9) => ?_)
    ·
      have w := w.1 h24
      obtain ⟨c25, w⟩ := w
      refine wk_b tt_223 5 (pc' := 290) (ls' := [(0, .inr (.inr (.ref 88))), (1, .inl (b1)), (2, .inl (b2))]) (st' := [.inl ((b2 + 1)), .inr (.inr (.ref 133))]) (σ' := σ) rfl ?_
      obtain ⟨c26, w⟩ := w
      refine wk_ia tt_223 rfl rfl c26.1 c26.2 c25 ?_
      refine wk_if tt_223 (tgt := 300) rfl rfl (sg_Rg _ _ _) (fun (h27 : ¬ (sg_g σ 133 ((b2 + 1))) = 0) => ?_) (fun (h27 : (sg_g σ 133 ((b2 + 1))) = 0) => ?_)
      ·
        have w := w.1 h27
        refine wk_b tt_223 4 (pc' := 306) (ls' := [(0, .inr (.inr (.ref 88))), (1, .inl (b1)), (2, .inl (b2))]) (st' := [.inl (b1), .inr (.inr (.ref 93)), .inr (.inr (.ref 88))]) (σ' := σ) rfl ?_
        refine wk_ia tt_223 rfl rfl c1.1 c1.2 rb1 ?_
        refine wk_b tt_223 3 (pc' := 312) (ls' := [(0, .inr (.inr (.ref 88))), (1, .inl (b1)), (2, .inl (b2))]) (st' := [.inl (b2), .inr (.inr (.ref 133)), .inl ((sg_g σ 93 (b1))), .inr (.inr (.ref 88))]) (σ' := σ) rfl ?_
        obtain ⟨c28, w⟩ := w
        refine wk_ia tt_223 rfl rfl c28.1 c28.2 rb2 ?_
        refine wk_b tt_223 5 (pc' := 320) (ls' := [(0, .inr (.inr (.ref 88))), (1, .inl (b1)), (2, .inl (b2))]) (st' := [.inl ((b2 + 1)), .inr (.inr (.ref 133)), .inl ((sg_g σ 133 (b2))), .inl ((sg_g σ 93 (b1))), .inr (.inr (.ref 88))]) (σ' := σ) rfl ?_
        refine wk_ia tt_223 rfl rfl c26.1 c26.2 c25 ?_
        obtain ⟨c29, w⟩ := w
        refine wk_callp tt_223 rfl rfl rfl rfl rfl tt_299 rfl (by decide) (w_operated z σ ((sg_g σ 93 (b1))) ((sg_g σ 133 (b2))) ((sg_g σ 133 ((b2 + 1)))) (sg_Rg _ _ _) (sg_Rg _ _ _) (sg_Rg _ _ _) c29) ?_
        have r30 := vr_operated  ((sg_g σ 93 (b1))) ((sg_g σ 133 (b2))) ((sg_g σ 133 ((b2 + 1)))) (sg_Rg _ _ _) (sg_Rg _ _ _) (sg_Rg _ _ _) c29
        refine wk_b tt_223 4 (pc' := 366) (ls' := [(3, .inl ((v_operated ((sg_g σ 93 (b1))) ((sg_g σ 133 (b2))) ((sg_g σ 133 ((b2 + 1))))))), (0, .inr (.inr (.ref 88))), (1, .inl (b1)), (2, .inl (b2))]) (st' := [.inl ((sg_g σ 88 73))]) (σ' := σ) rfl ?_
        refine wk_if tt_223 (tgt := 374) rfl rfl (sg_Rg _ _ _) (fun (h31 : ¬ (sg_g σ 88 73) = 0) => ?_) (fun (h31 : (sg_g σ 88 73) = 0) => ?_)
        ·
          have w := w.1 h31
          exact wk_rV tt_223 rfl rfl ⟨rfl, (sg_F_r [122, 123, 124, 125, 129, 131, 133, 135, 55088, 56088, 57088, 61088, 63088, 71088, 74088] σ), w⟩
        ·
          have w := w.2 h31
          refine wk_b tt_223 2 (pc' := 371) (ls' := [(3, .inl ((v_operated ((sg_g σ 93 (b1))) ((sg_g σ 133 (b2))) ((sg_g σ 133 ((b2 + 1))))))), (0, .inr (.inr (.ref 88))), (1, .inl (b1)), (2, .inl (b2))]) (st' := [.inl ((v_operated ((sg_g σ 93 (b1))) ((sg_g σ 133 (b2))) ((sg_g σ 133 ((b2 + 1)))))), .inr (.inr (.ref 88))]) (σ' := σ) rfl ?_
          refine wk_call tt_223 rfl rfl rfl rfl rfl tt_278 rfl (by decide) (w_leave z σ ((v_operated ((sg_g σ 93 (b1))) ((sg_g σ 133 (b2))) ((sg_g σ 133 ((b2 + 1)))))) _ r30 w) (fun u37 σ33 hq35 => ?_)
          obtain ⟨rfl, hF34, w⟩ := hq35
          have w := w hF34
          exact wk_rV tt_223 rfl rfl ⟨rfl, (sg_F_t (sg_F_r [122, 123, 124, 125, 129, 131, 133, 135, 55088, 56088, 57088, 61088, 63088, 71088, 74088] σ) (sg_F_m (L := [122, 123, 124, 125, 129, 131, 133, 135, 55088, 56088, 57088, 61088, 63088, 71088, 74088]) hF34 rfl)), w⟩
      ·
        have w := w.2 h27
        refine wk_b tt_223 2 (pc' := 296) (ls' := [(0, .inr (.inr (.ref 88))), (1, .inl (b1)), (2, .inl (b2))]) (st' := [.inl (1), .inr (.inr (.ref 88))]) (σ' := σ) rfl ?_
        refine wk_call tt_223 rfl rfl rfl rfl rfl tt_224 rfl (by decide) (w_ends z σ (1) _ (by decide) w) (fun u43 σ39 hq41 => ?_)
        obtain ⟨rfl, hF40, w⟩ := hq41
        have w := w hF40
        exact wk_rV tt_223 rfl rfl ⟨rfl, (sg_F_t (sg_F_r [122, 123, 124, 125, 129, 131, 133, 135, 55088, 56088, 57088, 61088, 63088, 71088, 74088] σ) (sg_F_m (L := [122, 123, 124, 125, 129, 131, 133, 135, 55088, 56088, 57088, 61088, 63088, 71088, 74088]) hF40 rfl)), w⟩
    ·
      have w := w.2 h24
      refine wk_b tt_223 3 (pc' := 277) (ls' := [(0, .inr (.inr (.ref 88))), (1, .inl (b1)), (2, .inl (b2))]) (st' := [.inl (b1), .inr (.inr (.ref 93))]) (σ' := σ) rfl ?_
      refine wk_ia tt_223 rfl rfl c1.1 c1.2 rb1 ?_
      refine wk_b tt_223 1 (pc' := 280) (ls' := [(0, .inr (.inr (.ref 88))), (1, .inl (b1)), (2, .inl (b2))]) (st' := [.inl (10), .inl ((sg_g σ 93 (b1)))]) (σ' := σ) rfl ?_
      refine wk_if2 tt_223 (tgt := 300) rfl rfl (sg_Rg _ _ _) (by decide) (fun (h44 : ¬ (sg_g σ 93 (b1)) = 10) => ?_) (fun (h44 : (sg_g σ 93 (b1)) = 10) => ?_)
      ·
        have w := w.1 h44
        refine wk_b tt_223 4 (pc' := 306) (ls' := [(0, .inr (.inr (.ref 88))), (1, .inl (b1)), (2, .inl (b2))]) (st' := [.inl (b1), .inr (.inr (.ref 93)), .inr (.inr (.ref 88))]) (σ' := σ) rfl ?_
        refine wk_ia tt_223 rfl rfl c1.1 c1.2 rb1 ?_
        refine wk_b tt_223 3 (pc' := 312) (ls' := [(0, .inr (.inr (.ref 88))), (1, .inl (b1)), (2, .inl (b2))]) (st' := [.inl (b2), .inr (.inr (.ref 133)), .inl ((sg_g σ 93 (b1))), .inr (.inr (.ref 88))]) (σ' := σ) rfl ?_
        obtain ⟨c45, w⟩ := w
        refine wk_ia tt_223 rfl rfl c45.1 c45.2 rb2 ?_
        obtain ⟨c46, w⟩ := w
        refine wk_b tt_223 5 (pc' := 320) (ls' := [(0, .inr (.inr (.ref 88))), (1, .inl (b1)), (2, .inl (b2))]) (st' := [.inl ((b2 + 1)), .inr (.inr (.ref 133)), .inl ((sg_g σ 133 (b2))), .inl ((sg_g σ 93 (b1))), .inr (.inr (.ref 88))]) (σ' := σ) rfl ?_
        obtain ⟨c47, w⟩ := w
        refine wk_ia tt_223 rfl rfl c47.1 c47.2 c46 ?_
        obtain ⟨c48, w⟩ := w
        refine wk_callp tt_223 rfl rfl rfl rfl rfl tt_299 rfl (by decide) (w_operated z σ ((sg_g σ 93 (b1))) ((sg_g σ 133 (b2))) ((sg_g σ 133 ((b2 + 1)))) (sg_Rg _ _ _) (sg_Rg _ _ _) (sg_Rg _ _ _) c48) ?_
        have r49 := vr_operated  ((sg_g σ 93 (b1))) ((sg_g σ 133 (b2))) ((sg_g σ 133 ((b2 + 1)))) (sg_Rg _ _ _) (sg_Rg _ _ _) (sg_Rg _ _ _) c48
        refine wk_b tt_223 4 (pc' := 366) (ls' := [(3, .inl ((v_operated ((sg_g σ 93 (b1))) ((sg_g σ 133 (b2))) ((sg_g σ 133 ((b2 + 1))))))), (0, .inr (.inr (.ref 88))), (1, .inl (b1)), (2, .inl (b2))]) (st' := [.inl ((sg_g σ 88 73))]) (σ' := σ) rfl ?_
        refine wk_if tt_223 (tgt := 374) rfl rfl (sg_Rg _ _ _) (fun (h50 : ¬ (sg_g σ 88 73) = 0) => ?_) (fun (h50 : (sg_g σ 88 73) = 0) => ?_)
        ·
          have w := w.1 h50
          exact wk_rV tt_223 rfl rfl ⟨rfl, (sg_F_r [122, 123, 124, 125, 129, 131, 133, 135, 55088, 56088, 57088, 61088, 63088, 71088, 74088] σ), w⟩
        ·
          have w := w.2 h50
          refine wk_b tt_223 2 (pc' := 371) (ls' := [(3, .inl ((v_operated ((sg_g σ 93 (b1))) ((sg_g σ 133 (b2))) ((sg_g σ 133 ((b2 + 1))))))), (0, .inr (.inr (.ref 88))), (1, .inl (b1)), (2, .inl (b2))]) (st' := [.inl ((v_operated ((sg_g σ 93 (b1))) ((sg_g σ 133 (b2))) ((sg_g σ 133 ((b2 + 1)))))), .inr (.inr (.ref 88))]) (σ' := σ) rfl ?_
          refine wk_call tt_223 rfl rfl rfl rfl rfl tt_278 rfl (by decide) (w_leave z σ ((v_operated ((sg_g σ 93 (b1))) ((sg_g σ 133 (b2))) ((sg_g σ 133 ((b2 + 1)))))) _ r49 w) (fun u56 σ52 hq54 => ?_)
          obtain ⟨rfl, hF53, w⟩ := hq54
          have w := w hF53
          exact wk_rV tt_223 rfl rfl ⟨rfl, (sg_F_t (sg_F_r [122, 123, 124, 125, 129, 131, 133, 135, 55088, 56088, 57088, 61088, 63088, 71088, 74088] σ) (sg_F_m (L := [122, 123, 124, 125, 129, 131, 133, 135, 55088, 56088, 57088, 61088, 63088, 71088, 74088]) hF53 rfl)), w⟩
      ·
        have w := w.2 h44
        obtain ⟨c57, w⟩ := w
        refine wk_b tt_223 5 (pc' := 290) (ls' := [(0, .inr (.inr (.ref 88))), (1, .inl (b1)), (2, .inl (b2))]) (st' := [.inl ((b2 + 1)), .inr (.inr (.ref 133))]) (σ' := σ) rfl ?_
        obtain ⟨c58, w⟩ := w
        refine wk_ia tt_223 rfl rfl c58.1 c58.2 c57 ?_
        refine wk_if tt_223 (tgt := 300) rfl rfl (sg_Rg _ _ _) (fun (h59 : ¬ (sg_g σ 133 ((b2 + 1))) = 0) => ?_) (fun (h59 : (sg_g σ 133 ((b2 + 1))) = 0) => ?_)
        ·
          have w := w.1 h59
          refine wk_b tt_223 4 (pc' := 306) (ls' := [(0, .inr (.inr (.ref 88))), (1, .inl (b1)), (2, .inl (b2))]) (st' := [.inl (b1), .inr (.inr (.ref 93)), .inr (.inr (.ref 88))]) (σ' := σ) rfl ?_
          refine wk_ia tt_223 rfl rfl c1.1 c1.2 rb1 ?_
          refine wk_b tt_223 3 (pc' := 312) (ls' := [(0, .inr (.inr (.ref 88))), (1, .inl (b1)), (2, .inl (b2))]) (st' := [.inl (b2), .inr (.inr (.ref 133)), .inl ((sg_g σ 93 (b1))), .inr (.inr (.ref 88))]) (σ' := σ) rfl ?_
          obtain ⟨c60, w⟩ := w
          refine wk_ia tt_223 rfl rfl c60.1 c60.2 rb2 ?_
          refine wk_b tt_223 5 (pc' := 320) (ls' := [(0, .inr (.inr (.ref 88))), (1, .inl (b1)), (2, .inl (b2))]) (st' := [.inl ((b2 + 1)), .inr (.inr (.ref 133)), .inl ((sg_g σ 133 (b2))), .inl ((sg_g σ 93 (b1))), .inr (.inr (.ref 88))]) (σ' := σ) rfl ?_
          refine wk_ia tt_223 rfl rfl c58.1 c58.2 c57 ?_
          obtain ⟨c61, w⟩ := w
          refine wk_callp tt_223 rfl rfl rfl rfl rfl tt_299 rfl (by decide) (w_operated z σ ((sg_g σ 93 (b1))) ((sg_g σ 133 (b2))) ((sg_g σ 133 ((b2 + 1)))) (sg_Rg _ _ _) (sg_Rg _ _ _) (sg_Rg _ _ _) c61) ?_
          have r62 := vr_operated  ((sg_g σ 93 (b1))) ((sg_g σ 133 (b2))) ((sg_g σ 133 ((b2 + 1)))) (sg_Rg _ _ _) (sg_Rg _ _ _) (sg_Rg _ _ _) c61
          refine wk_b tt_223 4 (pc' := 366) (ls' := [(3, .inl ((v_operated ((sg_g σ 93 (b1))) ((sg_g σ 133 (b2))) ((sg_g σ 133 ((b2 + 1))))))), (0, .inr (.inr (.ref 88))), (1, .inl (b1)), (2, .inl (b2))]) (st' := [.inl ((sg_g σ 88 73))]) (σ' := σ) rfl ?_
          refine wk_if tt_223 (tgt := 374) rfl rfl (sg_Rg _ _ _) (fun (h63 : ¬ (sg_g σ 88 73) = 0) => ?_) (fun (h63 : (sg_g σ 88 73) = 0) => ?_)
          ·
            have w := w.1 h63
            exact wk_rV tt_223 rfl rfl ⟨rfl, (sg_F_r [122, 123, 124, 125, 129, 131, 133, 135, 55088, 56088, 57088, 61088, 63088, 71088, 74088] σ), w⟩
          ·
            have w := w.2 h63
            refine wk_b tt_223 2 (pc' := 371) (ls' := [(3, .inl ((v_operated ((sg_g σ 93 (b1))) ((sg_g σ 133 (b2))) ((sg_g σ 133 ((b2 + 1))))))), (0, .inr (.inr (.ref 88))), (1, .inl (b1)), (2, .inl (b2))]) (st' := [.inl ((v_operated ((sg_g σ 93 (b1))) ((sg_g σ 133 (b2))) ((sg_g σ 133 ((b2 + 1)))))), .inr (.inr (.ref 88))]) (σ' := σ) rfl ?_
            refine wk_call tt_223 rfl rfl rfl rfl rfl tt_278 rfl (by decide) (w_leave z σ ((v_operated ((sg_g σ 93 (b1))) ((sg_g σ 133 (b2))) ((sg_g σ 133 ((b2 + 1)))))) _ r62 w) (fun u69 σ65 hq67 => ?_)
            obtain ⟨rfl, hF66, w⟩ := hq67
            have w := w hF66
            exact wk_rV tt_223 rfl rfl ⟨rfl, (sg_F_t (sg_F_r [122, 123, 124, 125, 129, 131, 133, 135, 55088, 56088, 57088, 61088, 63088, 71088, 74088] σ) (sg_F_m (L := [122, 123, 124, 125, 129, 131, 133, 135, 55088, 56088, 57088, 61088, 63088, 71088, 74088]) hF66 rfl)), w⟩
        ·
          have w := w.2 h59
          refine wk_b tt_223 2 (pc' := 296) (ls' := [(0, .inr (.inr (.ref 88))), (1, .inl (b1)), (2, .inl (b2))]) (st' := [.inl (1), .inr (.inr (.ref 88))]) (σ' := σ) rfl ?_
          refine wk_call tt_223 rfl rfl rfl rfl rfl tt_224 rfl (by decide) (w_ends z σ (1) _ (by decide) w) (fun u75 σ71 hq73 => ?_)
          obtain ⟨rfl, hF72, w⟩ := hq73
          have w := w hF72
          exact wk_rV tt_223 rfl rfl ⟨rfl, (sg_F_t (sg_F_r [122, 123, 124, 125, 129, 131, 133, 135, 55088, 56088, 57088, 61088, 63088, 71088, 74088] σ) (sg_F_m (L := [122, 123, 124, 125, 129, 131, 133, 135, 55088, 56088, 57088, 61088, 63088, 71088, 74088]) hF72 rfl)), w⟩
