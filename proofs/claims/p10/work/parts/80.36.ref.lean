/-! Conditions of the reference's methods, by program (36). -/
-- NestedVectorsModel.lookAct
def V_lookAct_25 (σ : sg_S) (b1 : Int) (b2 : Int) (b3 : Int) (Q : sg_S → Prop) : Prop := p_has σ (b1) (2) ∧ ∀ v4 : Int, v4 = (if (v_has σ (b1) (2)) = 0 then (0 : Int) else (if b2 ≤ 0 then (0 : Int) else (if ¬ b3 = 1 then (0 : Int) else (1 : Int)))) → sg_R v4 → V_typed σ (b1) (v4) (b2) (fun σ8 => sg_F [101, 30088, 31088] σ σ8 → Q σ8)
set_option maxHeartbeats 4000000 in
set_option maxRecDepth 8000 in
theorem w_lookAct_25 (z : Value) (σ : sg_S) (b1 : Int) (b2 : Int) (b3 : Int) (Q : sg_S → Prop) (rb1 : sg_R b1) (rb2 : sg_R b2) (rb3 : sg_R b3) (w : V_lookAct_25 σ b1 b2 b3 Q) : wx z 2 284 305 [(0, .inr (.inr (.ref 88))), (1, .inl (b1)), (2, .inl (b2)), (3, .inl (b3))] [] σ (fun v σ' => v = none ∧ sg_F [101, 30088, 31088] σ σ' ∧ Q σ') := by
  unfold V_lookAct_25 at w
  refine wk_b tt_284 5 (pc' := 310) (ls' := [(0, .inr (.inr (.ref 88))), (1, .inl (b1)), (2, .inl (b2)), (3, .inl (b3))]) (st' := [.inl (2), .inl (b1), .inr (.inr (.ref 88)), .inl (b1), .inr (.inr (.ref 88))]) (σ' := σ) rfl ?_
  obtain ⟨c1, w⟩ := w
  refine wk_callp tt_284 rfl rfl rfl rfl rfl tt_255 rfl (by decide) (w_has z σ (b1) (2) rb1 (by decide) c1) ?_
  have jn3 : ∀ v4 : Int, v4 = (if (v_has σ (b1) (2)) = 0 then (0 : Int) else (if b2 ≤ 0 then (0 : Int) else (if ¬ b3 = 1 then (0 : Int) else (1 : Int)))) → sg_R v4 → wx z 2 284 330 [(2, .inl (b2))] [.inl (v4), .inl (b1), .inr (.inr (.ref 88))] σ (fun v σ' => v = none ∧ sg_F [101, 30088, 31088] σ σ' ∧ Q σ') := by
    intro v4 e6 r5
    have w := w v4 e6 r5
    refine wk_b tt_284 1 (pc' := 331) (ls' := [(2, .inl (b2))]) (st' := [.inl (b2), .inl (v4), .inl (b1), .inr (.inr (.ref 88))]) (σ' := σ) rfl ?_
    refine wk_call tt_284 rfl rfl rfl rfl rfl tt_333 rfl (by decide) (w_typed z σ (b1) (v4) (b2) _ rb1 r5 rb2 w) (fun u12 σ8 hq10 => ?_)
    obtain ⟨rfl, hF9, w⟩ := hq10
    have w := w hF9
    refine wk_b tt_284 1 (pc' := 368) (ls' := [(2, .inl (b2))]) (st' := []) (σ' := σ8) rfl ?_
    exact wk_rV tt_284 rfl rfl ⟨rfl, (sg_F_t (sg_F_r [101, 30088, 31088] σ) (sg_F_m (L := [101, 30088, 31088]) hF9 rfl)), w⟩
  refine wk_if tt_284 (tgt := 329) rfl rfl (sg_Rz (vz_has ..)) (fun (h2 : (v_has σ (b1) (2)) = 0) => ?_) (fun (h2 : ¬ (v_has σ (b1) (2)) = 0) => ?_)
  ·
    clear w
    refine wk_b tt_284 1 (pc' := 330) (ls' := [(0, .inr (.inr (.ref 88))), (1, .inl (b1)), (2, .inl (b2)), (3, .inl (b3))]) (st' := [.inl (0), .inl (b1), .inr (.inr (.ref 88))]) (σ' := σ) rfl ?_
    exact wk_ls [(2, .inl (b2))] rfl ⟨rfl, trivial⟩ (jn3 (0) (by simp only [if_pos h2]) (by decide))
  ·
    clear w
    refine wk_b tt_284 1 (pc' := 317) (ls' := [(0, .inr (.inr (.ref 88))), (1, .inl (b1)), (2, .inl (b2)), (3, .inl (b3))]) (st' := [.inl (b2), .inl (b1), .inr (.inr (.ref 88))]) (σ' := σ) rfl ?_
    refine wk_if tt_284 (tgt := 329) rfl rfl rb2 (fun (h13 : b2 ≤ 0) => ?_) (fun (h13 : 0 < b2) => ?_)
    ·
      refine wk_b tt_284 1 (pc' := 330) (ls' := [(0, .inr (.inr (.ref 88))), (1, .inl (b1)), (2, .inl (b2)), (3, .inl (b3))]) (st' := [.inl (0), .inl (b1), .inr (.inr (.ref 88))]) (σ' := σ) rfl ?_
      exact wk_ls [(2, .inl (b2))] rfl ⟨rfl, trivial⟩ (jn3 (0) (by simp only [if_neg (show ¬ ((v_has σ (b1) (2)) = 0) by omega), if_pos h13]) (by decide))
    ·
      refine wk_b tt_284 2 (pc' := 322) (ls' := [(0, .inr (.inr (.ref 88))), (1, .inl (b1)), (2, .inl (b2)), (3, .inl (b3))]) (st' := [.inl (1), .inl (b3), .inl (b1), .inr (.inr (.ref 88))]) (σ' := σ) rfl ?_
      refine wk_if2 tt_284 (tgt := 329) rfl rfl rb3 (by decide) (fun (h14 : ¬ b3 = 1) => ?_) (fun (h14 : b3 = 1) => ?_)
      ·
        refine wk_b tt_284 1 (pc' := 330) (ls' := [(0, .inr (.inr (.ref 88))), (1, .inl (b1)), (2, .inl (b2)), (3, .inl (b3))]) (st' := [.inl (0), .inl (b1), .inr (.inr (.ref 88))]) (σ' := σ) rfl ?_
        exact wk_ls [(2, .inl (b2))] rfl ⟨rfl, trivial⟩ (jn3 (0) (by simp only [if_neg (show ¬ ((v_has σ (b1) (2)) = 0) by omega), if_neg (show ¬ (b2 ≤ 0) by omega), if_pos h14]) (by decide))
      ·
        refine wk_b tt_284 2 (pc' := 330) (ls' := [(0, .inr (.inr (.ref 88))), (1, .inl (b1)), (2, .inl (b2)), (3, .inl (b3))]) (st' := [.inl (1), .inl (b1), .inr (.inr (.ref 88))]) (σ' := σ) rfl ?_
        exact wk_ls [(2, .inl (b2))] rfl ⟨rfl, trivial⟩ (jn3 (1) (by simp only [if_neg (show ¬ ((v_has σ (b1) (2)) = 0) by omega), if_neg (show ¬ (b2 ≤ 0) by omega), if_neg (show ¬ (¬ b3 = 1) by omega)]) (by decide))
-- NestedVectorsModel.lookAct
def V_lookAct_d (σ : sg_S) (b1 : Int) (b2 : Int) (b3 : Int) (Q : sg_S → Prop) : Prop := p_has σ (b1) (2) ∧ ∀ v4 : Int, v4 = (if (v_has σ (b1) (2)) = 0 then (0 : Int) else (if b2 ≤ 0 then (0 : Int) else (if ¬ b3 = 1 then (0 : Int) else (1 : Int)))) → sg_R v4 → sg_R (b2 + 1) ∧ V_typed σ (b1) (v4) ((b2 + 1)) (fun σ9 => sg_F [101, 30088, 31088] σ σ9 → Q σ9)
set_option maxHeartbeats 4000000 in
set_option maxRecDepth 8000 in
theorem w_lookAct_d (z : Value) (σ : sg_S) (b1 : Int) (b2 : Int) (b3 : Int) (Q : sg_S → Prop) (rb1 : sg_R b1) (rb2 : sg_R b2) (rb3 : sg_R b3) (w : V_lookAct_d σ b1 b2 b3 Q) : wx z 2 284 337 [(0, .inr (.inr (.ref 88))), (1, .inl (b1)), (2, .inl (b2)), (3, .inl (b3))] [] σ (fun v σ' => v = none ∧ sg_F [101, 30088, 31088] σ σ' ∧ Q σ') := by
  unfold V_lookAct_d at w
  refine wk_b tt_284 5 (pc' := 342) (ls' := [(0, .inr (.inr (.ref 88))), (1, .inl (b1)), (2, .inl (b2)), (3, .inl (b3))]) (st' := [.inl (2), .inl (b1), .inr (.inr (.ref 88)), .inl (b1), .inr (.inr (.ref 88))]) (σ' := σ) rfl ?_
  obtain ⟨c1, w⟩ := w
  refine wk_callp tt_284 rfl rfl rfl rfl rfl tt_255 rfl (by decide) (w_has z σ (b1) (2) rb1 (by decide) c1) ?_
  have jn3 : ∀ v4 : Int, v4 = (if (v_has σ (b1) (2)) = 0 then (0 : Int) else (if b2 ≤ 0 then (0 : Int) else (if ¬ b3 = 1 then (0 : Int) else (1 : Int)))) → sg_R v4 → wx z 2 284 362 [(2, .inl (b2))] [.inl (v4), .inl (b1), .inr (.inr (.ref 88))] σ (fun v σ' => v = none ∧ sg_F [101, 30088, 31088] σ σ' ∧ Q σ') := by
    intro v4 e6 r5
    have w := w v4 e6 r5
    obtain ⟨c7, w⟩ := w
    refine wk_b tt_284 3 (pc' := 365) (ls' := [(2, .inl (b2))]) (st' := [.inl ((b2 + 1)), .inl (v4), .inl (b1), .inr (.inr (.ref 88))]) (σ' := σ) rfl ?_
    refine wk_call tt_284 rfl rfl rfl rfl rfl tt_333 rfl (by decide) (w_typed z σ (b1) (v4) ((b2 + 1)) _ rb1 r5 c7 w) (fun u13 σ9 hq11 => ?_)
    obtain ⟨rfl, hF10, w⟩ := hq11
    have w := w hF10
    exact wk_rV tt_284 rfl rfl ⟨rfl, (sg_F_t (sg_F_r [101, 30088, 31088] σ) (sg_F_m (L := [101, 30088, 31088]) hF10 rfl)), w⟩
  refine wk_if tt_284 (tgt := 361) rfl rfl (sg_Rz (vz_has ..)) (fun (h2 : (v_has σ (b1) (2)) = 0) => ?_) (fun (h2 : ¬ (v_has σ (b1) (2)) = 0) => ?_)
  ·
    clear w
    refine wk_b tt_284 1 (pc' := 362) (ls' := [(0, .inr (.inr (.ref 88))), (1, .inl (b1)), (2, .inl (b2)), (3, .inl (b3))]) (st' := [.inl (0), .inl (b1), .inr (.inr (.ref 88))]) (σ' := σ) rfl ?_
    exact wk_ls [(2, .inl (b2))] rfl ⟨rfl, trivial⟩ (jn3 (0) (by simp only [if_pos h2]) (by decide))
  ·
    clear w
    refine wk_b tt_284 1 (pc' := 349) (ls' := [(0, .inr (.inr (.ref 88))), (1, .inl (b1)), (2, .inl (b2)), (3, .inl (b3))]) (st' := [.inl (b2), .inl (b1), .inr (.inr (.ref 88))]) (σ' := σ) rfl ?_
    refine wk_if tt_284 (tgt := 361) rfl rfl rb2 (fun (h14 : b2 ≤ 0) => ?_) (fun (h14 : 0 < b2) => ?_)
    ·
      refine wk_b tt_284 1 (pc' := 362) (ls' := [(0, .inr (.inr (.ref 88))), (1, .inl (b1)), (2, .inl (b2)), (3, .inl (b3))]) (st' := [.inl (0), .inl (b1), .inr (.inr (.ref 88))]) (σ' := σ) rfl ?_
      exact wk_ls [(2, .inl (b2))] rfl ⟨rfl, trivial⟩ (jn3 (0) (by simp only [if_neg (show ¬ ((v_has σ (b1) (2)) = 0) by omega), if_pos h14]) (by decide))
    ·
      refine wk_b tt_284 2 (pc' := 354) (ls' := [(0, .inr (.inr (.ref 88))), (1, .inl (b1)), (2, .inl (b2)), (3, .inl (b3))]) (st' := [.inl (1), .inl (b3), .inl (b1), .inr (.inr (.ref 88))]) (σ' := σ) rfl ?_
      refine wk_if2 tt_284 (tgt := 361) rfl rfl rb3 (by decide) (fun (h15 : ¬ b3 = 1) => ?_) (fun (h15 : b3 = 1) => ?_)
      ·
        refine wk_b tt_284 1 (pc' := 362) (ls' := [(0, .inr (.inr (.ref 88))), (1, .inl (b1)), (2, .inl (b2)), (3, .inl (b3))]) (st' := [.inl (0), .inl (b1), .inr (.inr (.ref 88))]) (σ' := σ) rfl ?_
        exact wk_ls [(2, .inl (b2))] rfl ⟨rfl, trivial⟩ (jn3 (0) (by simp only [if_neg (show ¬ ((v_has σ (b1) (2)) = 0) by omega), if_neg (show ¬ (b2 ≤ 0) by omega), if_pos h15]) (by decide))
      ·
        refine wk_b tt_284 2 (pc' := 362) (ls' := [(0, .inr (.inr (.ref 88))), (1, .inl (b1)), (2, .inl (b2)), (3, .inl (b3))]) (st' := [.inl (1), .inl (b1), .inr (.inr (.ref 88))]) (σ' := σ) rfl ?_
        exact wk_ls [(2, .inl (b2))] rfl ⟨rfl, trivial⟩ (jn3 (1) (by simp only [if_neg (show ¬ ((v_has σ (b1) (2)) = 0) by omega), if_neg (show ¬ (b2 ≤ 0) by omega), if_neg (show ¬ (¬ b3 = 1) by omega)]) (by decide))
-- NestedVectorsModel.lookAct
def V_lookAct (σ : sg_S) (a1 : Int) (Q : sg_S → Prop) : Prop := (0 ≤ a1 ∧ a1 < 210) ∧ (((sg_g σ 96 (a1)) ≤ 0 → True) ∧ (0 < (sg_g σ 96 (a1)) → p_kidType σ (a1) (0) ∧ True)) ∧ ∀ v4 : Int, v4 = (if (sg_g σ 96 (a1)) ≤ 0 then (0 : Int) else (v_kidType σ (a1) (0))) → sg_R v4 → (((sg_g σ 96 (a1)) ≤ 1 → True) ∧ (1 < (sg_g σ 96 (a1)) → p_kidType σ (a1) (1) ∧ True)) ∧ ∀ v9 : Int, v9 = (if (sg_g σ 96 (a1)) ≤ 1 then (0 : Int) else (v_kidType σ (a1) (1))) → sg_R v9 → (((sg_g σ 93 (a1)) = 16 → V_lookAct_16 σ (a1) (v4) Q) ∧ (¬ (sg_g σ 93 (a1)) = 16 → (((sg_g σ 93 (a1)) = 17 → V_lookAct_17 σ (a1) (v4) (v9) Q) ∧ (¬ (sg_g σ 93 (a1)) = 17 → (((sg_g σ 93 (a1)) = 18 → V_lookAct_18 σ (a1) (v4) Q) ∧ (¬ (sg_g σ 93 (a1)) = 18 → (((sg_g σ 93 (a1)) = 19 → V_lookAct_18 σ (a1) (v4) Q) ∧ (¬ (sg_g σ 93 (a1)) = 19 → (((sg_g σ 93 (a1)) = 20 → V_lookAct_18 σ (a1) (v4) Q) ∧ (¬ (sg_g σ 93 (a1)) = 20 → (((sg_g σ 93 (a1)) = 21 → V_lookAct_21 σ (a1) (v4) Q) ∧ (¬ (sg_g σ 93 (a1)) = 21 → (((sg_g σ 93 (a1)) = 22 → V_lookAct_22 σ (a1) (v4) Q) ∧ (¬ (sg_g σ 93 (a1)) = 22 → (((sg_g σ 93 (a1)) = 23 → V_lookAct_23 σ (a1) (v4) (v9) Q) ∧ (¬ (sg_g σ 93 (a1)) = 23 → (((sg_g σ 93 (a1)) = 24 → V_lookAct_24 σ (a1) (v4) Q) ∧ (¬ (sg_g σ 93 (a1)) = 24 → (((sg_g σ 93 (a1)) = 25 → V_lookAct_25 σ (a1) (v4) (v9) Q) ∧ (¬ (sg_g σ 93 (a1)) = 25 → (((sg_g σ 93 (a1)) = 26 → V_lookAct_25 σ (a1) (v4) (v9) Q) ∧ (¬ (sg_g σ 93 (a1)) = 26 → V_lookAct_d σ (a1) (v4) (v9) Q))))))))))))))))))))))
set_option maxHeartbeats 4000000 in
set_option maxRecDepth 8000 in
theorem w_lookAct (z : Value) (σ : sg_S) (a1 : Int) (Q : sg_S → Prop) (ra1 : sg_R a1) (w : V_lookAct σ a1 Q) : wx z 2 284 0 [(0, .inr (.inr (.ref 88))), (1, .inl (a1))] [] σ (fun v σ' => v = none ∧ sg_F [101, 30088, 31088] σ σ' ∧ Q σ') := by
  unfold V_lookAct at w
  refine wk_b tt_284 3 (pc' := 5) (ls' := [(0, .inr (.inr (.ref 88))), (1, .inl (a1))]) (st' := [.inl (a1), .inr (.inr (.ref 96))]) (σ' := σ) rfl ?_
  obtain ⟨c1, w⟩ := w
  refine wk_ia tt_284 rfl rfl c1.1 c1.2 ra1 ?_
  obtain ⟨wp, w⟩ := w
  have jn3 : ∀ v4 : Int, v4 = (if (sg_g σ 96 (a1)) ≤ 0 then (0 : Int) else (v_kidType σ (a1) (0))) → sg_R v4 → wx z 2 284 19 [(0, .inr (.inr (.ref 88))), (1, .inl (a1))] [.inl (v4)] σ (fun v σ' => v = none ∧ sg_F [101, 30088, 31088] σ σ' ∧ Q σ') := by
    intro v4 e6 r5
    have w := w v4 e6 r5
    refine wk_b tt_284 4 (pc' := 25) (ls' := [(2, .inl (v4)), (0, .inr (.inr (.ref 88))), (1, .inl (a1))]) (st' := [.inl (a1), .inr (.inr (.ref 96))]) (σ' := σ) rfl ?_
    refine wk_ia tt_284 rfl rfl c1.1 c1.2 ra1 ?_
    refine wk_b tt_284 1 (pc' := 27) (ls' := [(2, .inl (v4)), (0, .inr (.inr (.ref 88))), (1, .inl (a1))]) (st' := [.inl (1), .inl ((sg_g σ 96 (a1)))]) (σ' := σ) rfl ?_
    obtain ⟨wp, w⟩ := w
    have jn8 : ∀ v9 : Int, v9 = (if (sg_g σ 96 (a1)) ≤ 1 then (0 : Int) else (v_kidType σ (a1) (1))) → sg_R v9 → wx z 2 284 40 [(0, .inr (.inr (.ref 88))), (1, .inl (a1)), (2, .inl (v4))] [.inl (v9)] σ (fun v σ' => v = none ∧ sg_F [101, 30088, 31088] σ σ' ∧ Q σ') := by
      intro v9 e11 r10
      have w := w v9 e11 r10
      refine wk_b tt_284 4 (pc' := 46) (ls' := [(3, .inl (v9)), (0, .inr (.inr (.ref 88))), (1, .inl (a1)), (2, .inl (v4))]) (st' := [.inl (a1), .inr (.inr (.ref 93))]) (σ' := σ) rfl ?_
      refine wk_ia tt_284 rfl rfl c1.1 c1.2 ra1 ?_
      by_cases e12 : (sg_g σ 93 (a1)) = 16
      · have w := w.1 e12
        refine wk_ts tt_284 (off := 57) (tgt := 104) rfl (sg_Rg _ _ _) (by rw [e12]; decide) rfl ?_
        refine wk_ls [(0, .inr (.inr (.ref 88))), (1, .inl (a1)), (2, .inl (v4))] rfl ⟨rfl, rfl, rfl, trivial⟩ ?_
        exact wk_post (wk_d (by decide) (w_lookAct_16 z σ (a1) (v4) Q ra1 r5 w)) (fun v σ' ⟨e, hF, hQ⟩ => ⟨e, sg_F_t (sg_F_r [101, 30088, 31088] σ) (sg_F_m hF rfl), hQ⟩)
      have w := w.2 e12
      by_cases e14 : (sg_g σ 93 (a1)) = 17
      · have w := w.1 e14
        refine wk_ts tt_284 (off := 84) (tgt := 131) rfl (sg_Rg _ _ _) (by rw [e14]; decide) rfl ?_
        refine wk_ls [(0, .inr (.inr (.ref 88))), (1, .inl (a1)), (2, .inl (v4)), (3, .inl (v9))] rfl ⟨rfl, rfl, rfl, rfl, trivial⟩ ?_
        exact wk_post (wk_d (by decide) (w_lookAct_17 z σ (a1) (v4) (v9) Q ra1 r5 r10 w)) (fun v σ' ⟨e, hF, hQ⟩ => ⟨e, sg_F_t (sg_F_r [101, 30088, 31088] σ) (sg_F_m hF rfl), hQ⟩)
      have w := w.2 e14
      by_cases e16 : (sg_g σ 93 (a1)) = 18
      · have w := w.1 e16
        refine wk_ts tt_284 (off := 113) (tgt := 160) rfl (sg_Rg _ _ _) (by rw [e16]; decide) rfl ?_
        refine wk_ls [(0, .inr (.inr (.ref 88))), (1, .inl (a1)), (2, .inl (v4))] rfl ⟨rfl, rfl, rfl, trivial⟩ ?_
        exact wk_post (wk_d (by decide) (w_lookAct_18 z σ (a1) (v4) Q ra1 r5 w)) (fun v σ' ⟨e, hF, hQ⟩ => ⟨e, sg_F_t (sg_F_r [101, 30088, 31088] σ) (sg_F_m hF rfl), hQ⟩)
      have w := w.2 e16
      by_cases e18 : (sg_g σ 93 (a1)) = 19
      · have w := w.1 e18
        refine wk_ts tt_284 (off := 113) (tgt := 160) rfl (sg_Rg _ _ _) (by rw [e18]; decide) rfl ?_
        refine wk_ls [(0, .inr (.inr (.ref 88))), (1, .inl (a1)), (2, .inl (v4))] rfl ⟨rfl, rfl, rfl, trivial⟩ ?_
        exact wk_post (wk_d (by decide) (w_lookAct_18 z σ (a1) (v4) Q ra1 r5 w)) (fun v σ' ⟨e, hF, hQ⟩ => ⟨e, sg_F_t (sg_F_r [101, 30088, 31088] σ) (sg_F_m hF rfl), hQ⟩)
      have w := w.2 e18
      by_cases e20 : (sg_g σ 93 (a1)) = 20
      · have w := w.1 e20
        refine wk_ts tt_284 (off := 113) (tgt := 160) rfl (sg_Rg _ _ _) (by rw [e20]; decide) rfl ?_
        refine wk_ls [(0, .inr (.inr (.ref 88))), (1, .inl (a1)), (2, .inl (v4))] rfl ⟨rfl, rfl, rfl, trivial⟩ ?_
        exact wk_post (wk_d (by decide) (w_lookAct_18 z σ (a1) (v4) Q ra1 r5 w)) (fun v σ' ⟨e, hF, hQ⟩ => ⟨e, sg_F_t (sg_F_r [101, 30088, 31088] σ) (sg_F_m hF rfl), hQ⟩)
      have w := w.2 e20
      by_cases e22 : (sg_g σ 93 (a1)) = 21
      · have w := w.1 e22
        refine wk_ts tt_284 (off := 141) (tgt := 188) rfl (sg_Rg _ _ _) (by rw [e22]; decide) rfl ?_
        refine wk_ls [(0, .inr (.inr (.ref 88))), (1, .inl (a1)), (2, .inl (v4))] rfl ⟨rfl, rfl, rfl, trivial⟩ ?_
        exact wk_post (wk_d (by decide) (w_lookAct_21 z σ (a1) (v4) Q ra1 r5 w)) (fun v σ' ⟨e, hF, hQ⟩ => ⟨e, sg_F_t (sg_F_r [101, 30088, 31088] σ) (sg_F_m hF rfl), hQ⟩)
      have w := w.2 e22
      by_cases e24 : (sg_g σ 93 (a1)) = 22
      · have w := w.1 e24
        refine wk_ts tt_284 (off := 169) (tgt := 216) rfl (sg_Rg _ _ _) (by rw [e24]; decide) rfl ?_
        refine wk_ls [(0, .inr (.inr (.ref 88))), (1, .inl (a1)), (2, .inl (v4))] rfl ⟨rfl, rfl, rfl, trivial⟩ ?_
        exact wk_post (wk_d (by decide) (w_lookAct_22 z σ (a1) (v4) Q ra1 r5 w)) (fun v σ' ⟨e, hF, hQ⟩ => ⟨e, sg_F_t (sg_F_r [101, 30088, 31088] σ) (sg_F_m hF rfl), hQ⟩)
      have w := w.2 e24
      by_cases e26 : (sg_g σ 93 (a1)) = 23
      · have w := w.1 e26
        refine wk_ts tt_284 (off := 196) (tgt := 243) rfl (sg_Rg _ _ _) (by rw [e26]; decide) rfl ?_
        refine wk_ls [(0, .inr (.inr (.ref 88))), (1, .inl (a1)), (2, .inl (v4)), (3, .inl (v9))] rfl ⟨rfl, rfl, rfl, rfl, trivial⟩ ?_
        exact wk_post (wk_d (by decide) (w_lookAct_23 z σ (a1) (v4) (v9) Q ra1 r5 r10 w)) (fun v σ' ⟨e, hF, hQ⟩ => ⟨e, sg_F_t (sg_F_r [101, 30088, 31088] σ) (sg_F_m hF rfl), hQ⟩)
      have w := w.2 e26
      by_cases e28 : (sg_g σ 93 (a1)) = 24
      · have w := w.1 e28
        refine wk_ts tt_284 (off := 228) (tgt := 275) rfl (sg_Rg _ _ _) (by rw [e28]; decide) rfl ?_
        refine wk_ls [(0, .inr (.inr (.ref 88))), (1, .inl (a1)), (2, .inl (v4))] rfl ⟨rfl, rfl, rfl, trivial⟩ ?_
        exact wk_post (wk_d (by decide) (w_lookAct_24 z σ (a1) (v4) Q ra1 r5 w)) (fun v σ' ⟨e, hF, hQ⟩ => ⟨e, sg_F_t (sg_F_r [101, 30088, 31088] σ) (sg_F_m hF rfl), hQ⟩)
      have w := w.2 e28
      by_cases e30 : (sg_g σ 93 (a1)) = 25
      · have w := w.1 e30
        refine wk_ts tt_284 (off := 258) (tgt := 305) rfl (sg_Rg _ _ _) (by rw [e30]; decide) rfl ?_
        refine wk_ls [(0, .inr (.inr (.ref 88))), (1, .inl (a1)), (2, .inl (v4)), (3, .inl (v9))] rfl ⟨rfl, rfl, rfl, rfl, trivial⟩ ?_
        exact wk_post (wk_d (by decide) (w_lookAct_25 z σ (a1) (v4) (v9) Q ra1 r5 r10 w)) (fun v σ' ⟨e, hF, hQ⟩ => ⟨e, sg_F_t (sg_F_r [101, 30088, 31088] σ) (sg_F_m hF rfl), hQ⟩)
      have w := w.2 e30
      by_cases e32 : (sg_g σ 93 (a1)) = 26
      · have w := w.1 e32
        refine wk_ts tt_284 (off := 258) (tgt := 305) rfl (sg_Rg _ _ _) (by rw [e32]; decide) rfl ?_
        refine wk_ls [(0, .inr (.inr (.ref 88))), (1, .inl (a1)), (2, .inl (v4)), (3, .inl (v9))] rfl ⟨rfl, rfl, rfl, rfl, trivial⟩ ?_
        exact wk_post (wk_d (by decide) (w_lookAct_25 z σ (a1) (v4) (v9) Q ra1 r5 r10 w)) (fun v σ' ⟨e, hF, hQ⟩ => ⟨e, sg_F_t (sg_F_r [101, 30088, 31088] σ) (sg_F_m hF rfl), hQ⟩)
      have w := w.2 e32
      refine wk_ts tt_284 (off := 290) (tgt := 337) rfl (sg_Rg _ _ _) (by rcases sw_lo ((sg_g σ 93 (a1))) 16 with h | h; (unfold bm_swt; rw [if_pos (Or.inl h)]); (unfold bm_swt; rw [if_pos (Or.inr (Int.lt_of_add_one_le (sw_st (k := 26) (sw_st (k := 25) (sw_st (k := 24) (sw_st (k := 23) (sw_st (k := 22) (sw_st (k := 21) (sw_st (k := 20) (sw_st (k := 19) (sw_st (k := 18) (sw_st (k := 17) (sw_st (k := 16) h e12) e14) e16) e18) e20) e22) e24) e26) e28) e30) e32)))])) rfl ?_
      refine wk_ls [(0, .inr (.inr (.ref 88))), (1, .inl (a1)), (2, .inl (v4)), (3, .inl (v9))] rfl ⟨rfl, rfl, rfl, rfl, trivial⟩ ?_
      exact wk_post (wk_d (by decide) (w_lookAct_d z σ (a1) (v4) (v9) Q ra1 r5 r10 w)) (fun v σ' ⟨e, hF, hQ⟩ => ⟨e, sg_F_t (sg_F_r [101, 30088, 31088] σ) (sg_F_m hF rfl), hQ⟩)
    have w := wp
    refine wk_if2 tt_284 (tgt := 39) rfl rfl (sg_Rg _ _ _) (by decide) (fun (h7 : (sg_g σ 96 (a1)) ≤ 1) => ?_) (fun (h7 : 1 < (sg_g σ 96 (a1))) => ?_)
    ·
      have w := w.1 h7
      refine wk_b tt_284 1 (pc' := 40) (ls' := [(2, .inl (v4)), (0, .inr (.inr (.ref 88))), (1, .inl (a1))]) (st' := [.inl (0)]) (σ' := σ) rfl ?_
      exact wk_ls [(0, .inr (.inr (.ref 88))), (1, .inl (a1)), (2, .inl (v4))] rfl ⟨rfl, rfl, rfl, trivial⟩ (jn8 (0) (by simp only [if_pos h7]) (by decide))
    ·
      have w := w.2 h7
      refine wk_b tt_284 3 (pc' := 33) (ls' := [(2, .inl (v4)), (0, .inr (.inr (.ref 88))), (1, .inl (a1))]) (st' := [.inl (1), .inl (a1), .inr (.inr (.ref 88))]) (σ' := σ) rfl ?_
      obtain ⟨c34, w⟩ := w
      refine wk_callp tt_284 rfl rfl rfl rfl rfl tt_273 rfl (by decide) (w_kidType z σ (a1) (1) ra1 (by decide) c34) ?_
      have r35 := vr_kidType σ  (a1) (1) ra1 (by decide) c34
      refine wk_b tt_284 1 (pc' := 40) (ls' := [(2, .inl (v4)), (0, .inr (.inr (.ref 88))), (1, .inl (a1))]) (st' := [.inl ((v_kidType σ (a1) (1)))]) (σ' := σ) rfl ?_
      exact wk_ls [(0, .inr (.inr (.ref 88))), (1, .inl (a1)), (2, .inl (v4))] rfl ⟨rfl, rfl, rfl, trivial⟩ (jn8 ((v_kidType σ (a1) (1))) (by simp only [if_neg (show ¬ ((sg_g σ 96 (a1)) ≤ 1) by omega)]) r35)
  have w := wp
  refine wk_if tt_284 (tgt := 18) rfl rfl (sg_Rg _ _ _) (fun (h2 : (sg_g σ 96 (a1)) ≤ 0) => ?_) (fun (h2 : 0 < (sg_g σ 96 (a1))) => ?_)
  ·
    have w := w.1 h2
    refine wk_b tt_284 1 (pc' := 19) (ls' := [(0, .inr (.inr (.ref 88))), (1, .inl (a1))]) (st' := [.inl (0)]) (σ' := σ) rfl ?_
    exact wk_ls [(0, .inr (.inr (.ref 88))), (1, .inl (a1))] rfl ⟨rfl, rfl, trivial⟩ (jn3 (0) (by simp only [if_pos h2]) (by decide))
  ·
    have w := w.2 h2
    refine wk_b tt_284 3 (pc' := 12) (ls' := [(0, .inr (.inr (.ref 88))), (1, .inl (a1))]) (st' := [.inl (0), .inl (a1), .inr (.inr (.ref 88))]) (σ' := σ) rfl ?_
    obtain ⟨c36, w⟩ := w
    refine wk_callp tt_284 rfl rfl rfl rfl rfl tt_273 rfl (by decide) (w_kidType z σ (a1) (0) ra1 (by decide) c36) ?_
    have r37 := vr_kidType σ  (a1) (0) ra1 (by decide) c36
    refine wk_b tt_284 1 (pc' := 19) (ls' := [(0, .inr (.inr (.ref 88))), (1, .inl (a1))]) (st' := [.inl ((v_kidType σ (a1) (0)))]) (σ' := σ) rfl ?_
    exact wk_ls [(0, .inr (.inr (.ref 88))), (1, .inl (a1))] rfl ⟨rfl, rfl, trivial⟩ (jn3 ((v_kidType σ (a1) (0))) (by simp only [if_neg (show ¬ ((sg_g σ 96 (a1)) ≤ 0) by omega)]) r37)
-- NestedVectorsModel.lookAt
def V_lookAt_d (σ : sg_S) (b1 : Int) (b2 : Int) (b3 : Int) (Q : sg_S → Prop) : Prop := (0 ≤ b1 ∧ b1 < 210) ∧ ((11 ≤ (sg_g σ 93 (b1)) → V_lookAct σ (b1) (fun σ4 => sg_F [101, 30088, 31088] σ σ4 → Q σ4)) ∧ ((sg_g σ 93 (b1)) < 11 → ∀ v11 : Int, v11 = (if ¬ b2 = 0 then (0 : Int) else (if ¬ b3 = 0 then (0 : Int) else (1 : Int))) → sg_R v11 → V_typed σ (b1) (v11) (0) (fun σ15 => sg_F [101, 30088, 31088] σ σ15 → Q σ15)))
set_option maxHeartbeats 4000000 in
set_option maxRecDepth 8000 in
theorem w_lookAt_d (z : Value) (σ : sg_S) (b1 : Int) (b2 : Int) (b3 : Int) (Q : sg_S → Prop) (rb1 : sg_R b1) (rb2 : sg_R b2) (rb3 : sg_R b3) (w : V_lookAt_d σ b1 b2 b3 Q) : wx z 3 285 381 [(0, .inr (.inr (.ref 88))), (1, .inl (b1)), (2, .inl (b2)), (3, .inl (b3))] [] σ (fun v σ' => v = none ∧ sg_F [101, 30088, 31088] σ σ' ∧ Q σ') := by
  unfold V_lookAt_d at w
  refine wk_b tt_285 3 (pc' := 386) (ls' := [(0, .inr (.inr (.ref 88))), (1, .inl (b1)), (2, .inl (b2)), (3, .inl (b3))]) (st' := [.inl (b1), .inr (.inr (.ref 93))]) (σ' := σ) rfl ?_
  obtain ⟨c1, w⟩ := w
  refine wk_ia tt_285 rfl rfl c1.1 c1.2 rb1 ?_
  refine wk_b tt_285 1 (pc' := 389) (ls' := [(0, .inr (.inr (.ref 88))), (1, .inl (b1)), (2, .inl (b2)), (3, .inl (b3))]) (st' := [.inl (11), .inl ((sg_g σ 93 (b1)))]) (σ' := σ) rfl ?_
  refine wk_if2 tt_285 (tgt := 414) rfl rfl (sg_Rg _ _ _) (by decide) (fun (h2 : 11 ≤ (sg_g σ 93 (b1))) => ?_) (fun (h2 : (sg_g σ 93 (b1)) < 11) => ?_)
  ·
    have w := w.1 h2
    refine wk_b tt_285 2 (pc' := 416) (ls' := [(0, .inr (.inr (.ref 88))), (1, .inl (b1)), (2, .inl (b2)), (3, .inl (b3))]) (st' := [.inl (b1), .inr (.inr (.ref 88))]) (σ' := σ) rfl ?_
    refine wk_call tt_285 rfl rfl rfl rfl rfl tt_284 rfl (by decide) (w_lookAct z σ (b1) _ rb1 w) (fun u8 σ4 hq6 => ?_)
    obtain ⟨rfl, hF5, w⟩ := hq6
    have w := w hF5
    exact wk_rV tt_285 rfl rfl ⟨rfl, (sg_F_t (sg_F_r [101, 30088, 31088] σ) (sg_F_m (L := [101, 30088, 31088]) hF5 rfl)), w⟩
  ·
    have w := w.2 h2
    refine wk_b tt_285 3 (pc' := 395) (ls' := [(0, .inr (.inr (.ref 88))), (1, .inl (b1)), (2, .inl (b2)), (3, .inl (b3))]) (st' := [.inl (b2), .inl (b1), .inr (.inr (.ref 88))]) (σ' := σ) rfl ?_
    have jn10 : ∀ v11 : Int, v11 = (if ¬ b2 = 0 then (0 : Int) else (if ¬ b3 = 0 then (0 : Int) else (1 : Int))) → sg_R v11 → wx z 3 285 407 [] [.inl (v11), .inl (b1), .inr (.inr (.ref 88))] σ (fun v σ' => v = none ∧ sg_F [101, 30088, 31088] σ σ' ∧ Q σ') := by
      intro v11 e13 r12
      have w := w v11 e13 r12
      refine wk_b tt_285 1 (pc' := 408) (ls' := []) (st' := [.inl (0), .inl (v11), .inl (b1), .inr (.inr (.ref 88))]) (σ' := σ) rfl ?_
      refine wk_call tt_285 rfl rfl rfl rfl rfl tt_333 rfl (by decide) (w_typed z σ (b1) (v11) (0) _ rb1 r12 (by decide) w) (fun u19 σ15 hq17 => ?_)
      obtain ⟨rfl, hF16, w⟩ := hq17
      have w := w hF16
      refine wk_b tt_285 1 (pc' := 419) (ls' := []) (st' := []) (σ' := σ15) rfl ?_
      exact wk_rV tt_285 rfl rfl ⟨rfl, (sg_F_t (sg_F_r [101, 30088, 31088] σ) (sg_F_m (L := [101, 30088, 31088]) hF16 rfl)), w⟩
    refine wk_if tt_285 (tgt := 406) rfl rfl rb2 (fun (h9 : ¬ b2 = 0) => ?_) (fun (h9 : b2 = 0) => ?_)
    ·
      clear w
      refine wk_b tt_285 1 (pc' := 407) (ls' := [(0, .inr (.inr (.ref 88))), (1, .inl (b1)), (2, .inl (b2)), (3, .inl (b3))]) (st' := [.inl (0), .inl (b1), .inr (.inr (.ref 88))]) (σ' := σ) rfl ?_
      exact wk_ls [] rfl trivial (jn10 (0) (by simp only [if_pos h9]) (by decide))
    ·
      clear w
      refine wk_b tt_285 1 (pc' := 399) (ls' := [(0, .inr (.inr (.ref 88))), (1, .inl (b1)), (2, .inl (b2)), (3, .inl (b3))]) (st' := [.inl (b3), .inl (b1), .inr (.inr (.ref 88))]) (σ' := σ) rfl ?_
      refine wk_if tt_285 (tgt := 406) rfl rfl rb3 (fun (h20 : ¬ b3 = 0) => ?_) (fun (h20 : b3 = 0) => ?_)
      ·
        refine wk_b tt_285 1 (pc' := 407) (ls' := [(0, .inr (.inr (.ref 88))), (1, .inl (b1)), (2, .inl (b2)), (3, .inl (b3))]) (st' := [.inl (0), .inl (b1), .inr (.inr (.ref 88))]) (σ' := σ) rfl ?_
        exact wk_ls [] rfl trivial (jn10 (0) (by simp only [if_neg (show ¬ (¬ b2 = 0) by omega), if_pos h20]) (by decide))
      ·
        refine wk_b tt_285 2 (pc' := 407) (ls' := [(0, .inr (.inr (.ref 88))), (1, .inl (b1)), (2, .inl (b2)), (3, .inl (b3))]) (st' := [.inl (1), .inl (b1), .inr (.inr (.ref 88))]) (σ' := σ) rfl ?_
        exact wk_ls [] rfl trivial (jn10 (1) (by simp only [if_neg (show ¬ (¬ b2 = 0) by omega), if_neg (show ¬ (¬ b3 = 0) by omega)]) (by decide))
-- NestedVectorsModel.lookAt
def V_lookAt (σ : sg_S) (a1 : Int) (Q : sg_S → Prop) : Prop := (0 ≤ a1 ∧ a1 < 210) ∧ (((sg_g σ 96 (a1)) ≤ 0 → True) ∧ (0 < (sg_g σ 96 (a1)) → p_kidType σ (a1) (0) ∧ True)) ∧ ∀ v4 : Int, v4 = (if (sg_g σ 96 (a1)) ≤ 0 then (0 : Int) else (v_kidType σ (a1) (0))) → sg_R v4 → (((sg_g σ 96 (a1)) ≤ 1 → True) ∧ (1 < (sg_g σ 96 (a1)) → p_kidType σ (a1) (1) ∧ True)) ∧ ∀ v9 : Int, v9 = (if (sg_g σ 96 (a1)) ≤ 1 then (0 : Int) else (v_kidType σ (a1) (1))) → sg_R v9 → (((sg_g σ 93 (a1)) = 0 → V_lookAt_0 σ (a1) Q) ∧ (¬ (sg_g σ 93 (a1)) = 0 → (((sg_g σ 93 (a1)) = 1 → V_lookAt_1 σ (a1) Q) ∧ (¬ (sg_g σ 93 (a1)) = 1 → (((sg_g σ 93 (a1)) = 2 → V_lookAt_2 σ (a1) (v9) Q) ∧ (¬ (sg_g σ 93 (a1)) = 2 → (((sg_g σ 93 (a1)) = 3 → V_lookAt_3 σ (a1) (v4) (v9) Q) ∧ (¬ (sg_g σ 93 (a1)) = 3 → (((sg_g σ 93 (a1)) = 11 → V_lookAt_11 σ (a1) (v4) Q) ∧ (¬ (sg_g σ 93 (a1)) = 11 → (((sg_g σ 93 (a1)) = 12 → V_lookAt_12 σ (a1) (v4) (v9) Q) ∧ (¬ (sg_g σ 93 (a1)) = 12 → (((sg_g σ 93 (a1)) = 13 → V_lookAt_13 σ (a1) Q) ∧ (¬ (sg_g σ 93 (a1)) = 13 → (((sg_g σ 93 (a1)) = 14 → V_lookAt_14 σ (a1) (v4) Q) ∧ (¬ (sg_g σ 93 (a1)) = 14 → (((sg_g σ 93 (a1)) = 15 → V_lookAt_15 σ (a1) (v4) Q) ∧ (¬ (sg_g σ 93 (a1)) = 15 → V_lookAt_d σ (a1) (v4) (v9) Q))))))))))))))))))
set_option maxHeartbeats 4000000 in
set_option maxRecDepth 8000 in
theorem w_lookAt (z : Value) (σ : sg_S) (a1 : Int) (Q : sg_S → Prop) (ra1 : sg_R a1) (w : V_lookAt σ a1 Q) : wx z 3 285 0 [(0, .inr (.inr (.ref 88))), (1, .inl (a1))] [] σ (fun v σ' => v = none ∧ sg_F [101, 102, 30088, 31088] σ σ' ∧ Q σ') := by
  unfold V_lookAt at w
  refine wk_b tt_285 3 (pc' := 5) (ls' := [(0, .inr (.inr (.ref 88))), (1, .inl (a1))]) (st' := [.inl (a1), .inr (.inr (.ref 96))]) (σ' := σ) rfl ?_
  obtain ⟨c1, w⟩ := w
  refine wk_ia tt_285 rfl rfl c1.1 c1.2 ra1 ?_
  obtain ⟨wp, w⟩ := w
  have jn3 : ∀ v4 : Int, v4 = (if (sg_g σ 96 (a1)) ≤ 0 then (0 : Int) else (v_kidType σ (a1) (0))) → sg_R v4 → wx z 3 285 19 [(0, .inr (.inr (.ref 88))), (1, .inl (a1))] [.inl (v4)] σ (fun v σ' => v = none ∧ sg_F [101, 102, 30088, 31088] σ σ' ∧ Q σ') := by
    intro v4 e6 r5
    have w := w v4 e6 r5
    refine wk_b tt_285 4 (pc' := 25) (ls' := [(2, .inl (v4)), (0, .inr (.inr (.ref 88))), (1, .inl (a1))]) (st' := [.inl (a1), .inr (.inr (.ref 96))]) (σ' := σ) rfl ?_
    refine wk_ia tt_285 rfl rfl c1.1 c1.2 ra1 ?_
    refine wk_b tt_285 1 (pc' := 27) (ls' := [(2, .inl (v4)), (0, .inr (.inr (.ref 88))), (1, .inl (a1))]) (st' := [.inl (1), .inl ((sg_g σ 96 (a1)))]) (σ' := σ) rfl ?_
    obtain ⟨wp, w⟩ := w
    have jn8 : ∀ v9 : Int, v9 = (if (sg_g σ 96 (a1)) ≤ 1 then (0 : Int) else (v_kidType σ (a1) (1))) → sg_R v9 → wx z 3 285 40 [(0, .inr (.inr (.ref 88))), (1, .inl (a1)), (2, .inl (v4))] [.inl (v9)] σ (fun v σ' => v = none ∧ sg_F [101, 102, 30088, 31088] σ σ' ∧ Q σ') := by
      intro v9 e11 r10
      have w := w v9 e11 r10
      refine wk_b tt_285 4 (pc' := 46) (ls' := [(3, .inl (v9)), (0, .inr (.inr (.ref 88))), (1, .inl (a1)), (2, .inl (v4))]) (st' := [.inl (a1), .inr (.inr (.ref 93))]) (σ' := σ) rfl ?_
      refine wk_ia tt_285 rfl rfl c1.1 c1.2 ra1 ?_
      by_cases e12 : (sg_g σ 93 (a1)) = 0
      · have w := w.1 e12
        refine wk_ts tt_285 (off := 77) (tgt := 124) rfl (sg_Rg _ _ _) (by rw [e12]; decide) rfl ?_
        refine wk_ls [(0, .inr (.inr (.ref 88))), (1, .inl (a1))] rfl ⟨rfl, rfl, trivial⟩ ?_
        exact wk_post (wk_d (by decide) (w_lookAt_0 z σ (a1) Q ra1 w)) (fun v σ' ⟨e, hF, hQ⟩ => ⟨e, sg_F_t (sg_F_r [101, 102, 30088, 31088] σ) (sg_F_m hF rfl), hQ⟩)
      have w := w.2 e12
      by_cases e14 : (sg_g σ 93 (a1)) = 1
      · have w := w.1 e14
        refine wk_ts tt_285 (off := 87) (tgt := 134) rfl (sg_Rg _ _ _) (by rw [e14]; decide) rfl ?_
        refine wk_ls [(0, .inr (.inr (.ref 88))), (1, .inl (a1))] rfl ⟨rfl, rfl, trivial⟩ ?_
        exact wk_post (wk_d (by decide) (w_lookAt_1 z σ (a1) Q ra1 w)) (fun v σ' ⟨e, hF, hQ⟩ => ⟨e, sg_F_t (sg_F_r [101, 102, 30088, 31088] σ) (sg_F_m hF rfl), hQ⟩)
      have w := w.2 e14
      by_cases e16 : (sg_g σ 93 (a1)) = 2
      · have w := w.1 e16
        refine wk_ts tt_285 (off := 147) (tgt := 194) rfl (sg_Rg _ _ _) (by rw [e16]; decide) rfl ?_
        refine wk_ls [(0, .inr (.inr (.ref 88))), (1, .inl (a1)), (3, .inl (v9))] rfl ⟨rfl, rfl, rfl, trivial⟩ ?_
        exact wk_post (wk_d (by decide) (w_lookAt_2 z σ (a1) (v9) Q ra1 r10 w)) (fun v σ' ⟨e, hF, hQ⟩ => ⟨e, sg_F_t (sg_F_r [101, 102, 30088, 31088] σ) (sg_F_m hF rfl), hQ⟩)
      have w := w.2 e16
      by_cases e18 : (sg_g σ 93 (a1)) = 3
      · have w := w.1 e18
        refine wk_ts tt_285 (off := 157) (tgt := 204) rfl (sg_Rg _ _ _) (by rw [e18]; decide) rfl ?_
        refine wk_ls [(0, .inr (.inr (.ref 88))), (1, .inl (a1)), (2, .inl (v4)), (3, .inl (v9))] rfl ⟨rfl, rfl, rfl, rfl, trivial⟩ ?_
        exact wk_post (wk_d (by decide) (w_lookAt_3 z σ (a1) (v4) (v9) Q ra1 r5 r10 w)) (fun v σ' ⟨e, hF, hQ⟩ => ⟨e, sg_F_t (sg_F_r [101, 102, 30088, 31088] σ) (sg_F_m hF rfl), hQ⟩)
      have w := w.2 e18
      by_cases e20 : (sg_g σ 93 (a1)) = 11
      · have w := w.1 e20
        refine wk_ts tt_285 (off := 185) (tgt := 232) rfl (sg_Rg _ _ _) (by rw [e20]; decide) rfl ?_
        refine wk_ls [(0, .inr (.inr (.ref 88))), (1, .inl (a1)), (2, .inl (v4))] rfl ⟨rfl, rfl, rfl, trivial⟩ ?_
        exact wk_post (wk_d (by decide) (w_lookAt_11 z σ (a1) (v4) Q ra1 r5 w)) (fun v σ' ⟨e, hF, hQ⟩ => ⟨e, sg_F_t (sg_F_r [101, 102, 30088, 31088] σ) (sg_F_m hF rfl), hQ⟩)
      have w := w.2 e20
      by_cases e22 : (sg_g σ 93 (a1)) = 12
      · have w := w.1 e22
        refine wk_ts tt_285 (off := 203) (tgt := 250) rfl (sg_Rg _ _ _) (by rw [e22]; decide) rfl ?_
        refine wk_ls [(0, .inr (.inr (.ref 88))), (1, .inl (a1)), (2, .inl (v4)), (3, .inl (v9))] rfl ⟨rfl, rfl, rfl, rfl, trivial⟩ ?_
        exact wk_post (wk_d (by decide) (w_lookAt_12 z σ (a1) (v4) (v9) Q ra1 r5 r10 w)) (fun v σ' ⟨e, hF, hQ⟩ => ⟨e, sg_F_t (sg_F_r [101, 102, 30088, 31088] σ) (sg_F_m hF rfl), hQ⟩)
      have w := w.2 e22
      by_cases e24 : (sg_g σ 93 (a1)) = 13
      · have w := w.1 e24
        refine wk_ts tt_285 (off := 227) (tgt := 274) rfl (sg_Rg _ _ _) (by rw [e24]; decide) rfl ?_
        refine wk_ls [(0, .inr (.inr (.ref 88))), (1, .inl (a1))] rfl ⟨rfl, rfl, trivial⟩ ?_
        exact wk_post (wk_d (by decide) (w_lookAt_13 z σ (a1) Q ra1 w)) (fun v σ' ⟨e, hF, hQ⟩ => ⟨e, sg_F_t (sg_F_r [101, 102, 30088, 31088] σ) (sg_F_m hF rfl), hQ⟩)
      have w := w.2 e24
      by_cases e26 : (sg_g σ 93 (a1)) = 14
      · have w := w.1 e26
        refine wk_ts tt_285 (off := 235) (tgt := 282) rfl (sg_Rg _ _ _) (by rw [e26]; decide) rfl ?_
        refine wk_ls [(0, .inr (.inr (.ref 88))), (1, .inl (a1)), (2, .inl (v4))] rfl ⟨rfl, rfl, rfl, trivial⟩ ?_
        exact wk_post (wk_d (by decide) (w_lookAt_14 z σ (a1) (v4) Q ra1 r5 w)) (fun v σ' ⟨e, hF, hQ⟩ => ⟨e, sg_F_t (sg_F_r [101, 102, 30088, 31088] σ) (sg_F_m hF rfl), hQ⟩)
      have w := w.2 e26
      by_cases e28 : (sg_g σ 93 (a1)) = 15
      · have w := w.1 e28
        refine wk_ts tt_285 (off := 294) (tgt := 341) rfl (sg_Rg _ _ _) (by rw [e28]; decide) rfl ?_
        refine wk_ls [(0, .inr (.inr (.ref 88))), (1, .inl (a1)), (2, .inl (v4))] rfl ⟨rfl, rfl, rfl, trivial⟩ ?_
        exact wk_post (wk_d (by decide) (w_lookAt_15 z σ (a1) (v4) Q ra1 r5 w)) (fun v σ' ⟨e, hF, hQ⟩ => ⟨e, sg_F_t (sg_F_r [101, 102, 30088, 31088] σ) (sg_F_m hF rfl), hQ⟩)
      have w := w.2 e28
      refine wk_ts tt_285 (off := 334) (tgt := 381) rfl (sg_Rg _ _ _) (by rcases sw_lo ((sg_g σ 93 (a1))) 0 with h | h; (unfold bm_swt; rw [if_pos (Or.inl h)]); by_cases g4 : (sg_g σ 93 (a1)) = 4; (rw [g4]; decide); by_cases g5 : (sg_g σ 93 (a1)) = 5; (rw [g5]; decide); by_cases g6 : (sg_g σ 93 (a1)) = 6; (rw [g6]; decide); by_cases g7 : (sg_g σ 93 (a1)) = 7; (rw [g7]; decide); by_cases g8 : (sg_g σ 93 (a1)) = 8; (rw [g8]; decide); by_cases g9 : (sg_g σ 93 (a1)) = 9; (rw [g9]; decide); by_cases g10 : (sg_g σ 93 (a1)) = 10; (rw [g10]; decide); (unfold bm_swt; rw [if_pos (Or.inr (Int.lt_of_add_one_le (sw_st (k := 15) (sw_st (k := 14) (sw_st (k := 13) (sw_st (k := 12) (sw_st (k := 11) (sw_st (k := 10) (sw_st (k := 9) (sw_st (k := 8) (sw_st (k := 7) (sw_st (k := 6) (sw_st (k := 5) (sw_st (k := 4) (sw_st (k := 3) (sw_st (k := 2) (sw_st (k := 1) (sw_st (k := 0) h e12) e14) e16) e18) g4) g5) g6) g7) g8) g9) g10) e20) e22) e24) e26) e28)))])) rfl ?_
      refine wk_ls [(0, .inr (.inr (.ref 88))), (1, .inl (a1)), (2, .inl (v4)), (3, .inl (v9))] rfl ⟨rfl, rfl, rfl, rfl, trivial⟩ ?_
      exact wk_post (wk_d (by decide) (w_lookAt_d z σ (a1) (v4) (v9) Q ra1 r5 r10 w)) (fun v σ' ⟨e, hF, hQ⟩ => ⟨e, sg_F_t (sg_F_r [101, 102, 30088, 31088] σ) (sg_F_m hF rfl), hQ⟩)
    have w := wp
    refine wk_if2 tt_285 (tgt := 39) rfl rfl (sg_Rg _ _ _) (by decide) (fun (h7 : (sg_g σ 96 (a1)) ≤ 1) => ?_) (fun (h7 : 1 < (sg_g σ 96 (a1))) => ?_)
    ·
      have w := w.1 h7
      refine wk_b tt_285 1 (pc' := 40) (ls' := [(2, .inl (v4)), (0, .inr (.inr (.ref 88))), (1, .inl (a1))]) (st' := [.inl (0)]) (σ' := σ) rfl ?_
      exact wk_ls [(0, .inr (.inr (.ref 88))), (1, .inl (a1)), (2, .inl (v4))] rfl ⟨rfl, rfl, rfl, trivial⟩ (jn8 (0) (by simp only [if_pos h7]) (by decide))
    ·
      have w := w.2 h7
      refine wk_b tt_285 3 (pc' := 33) (ls' := [(2, .inl (v4)), (0, .inr (.inr (.ref 88))), (1, .inl (a1))]) (st' := [.inl (1), .inl (a1), .inr (.inr (.ref 88))]) (σ' := σ) rfl ?_
      obtain ⟨c30, w⟩ := w
      refine wk_callp tt_285 rfl rfl rfl rfl rfl tt_273 rfl (by decide) (w_kidType z σ (a1) (1) ra1 (by decide) c30) ?_
      have r31 := vr_kidType σ  (a1) (1) ra1 (by decide) c30
      refine wk_b tt_285 1 (pc' := 40) (ls' := [(2, .inl (v4)), (0, .inr (.inr (.ref 88))), (1, .inl (a1))]) (st' := [.inl ((v_kidType σ (a1) (1)))]) (σ' := σ) rfl ?_
      exact wk_ls [(0, .inr (.inr (.ref 88))), (1, .inl (a1)), (2, .inl (v4))] rfl ⟨rfl, rfl, rfl, trivial⟩ (jn8 ((v_kidType σ (a1) (1))) (by simp only [if_neg (show ¬ ((sg_g σ 96 (a1)) ≤ 1) by omega)]) r31)
  have w := wp
  refine wk_if tt_285 (tgt := 18) rfl rfl (sg_Rg _ _ _) (fun (h2 : (sg_g σ 96 (a1)) ≤ 0) => ?_) (fun (h2 : 0 < (sg_g σ 96 (a1))) => ?_)
  ·
    have w := w.1 h2
    refine wk_b tt_285 1 (pc' := 19) (ls' := [(0, .inr (.inr (.ref 88))), (1, .inl (a1))]) (st' := [.inl (0)]) (σ' := σ) rfl ?_
    exact wk_ls [(0, .inr (.inr (.ref 88))), (1, .inl (a1))] rfl ⟨rfl, rfl, trivial⟩ (jn3 (0) (by simp only [if_pos h2]) (by decide))
  ·
    have w := w.2 h2
    refine wk_b tt_285 3 (pc' := 12) (ls' := [(0, .inr (.inr (.ref 88))), (1, .inl (a1))]) (st' := [.inl (0), .inl (a1), .inr (.inr (.ref 88))]) (σ' := σ) rfl ?_
    obtain ⟨c32, w⟩ := w
    refine wk_callp tt_285 rfl rfl rfl rfl rfl tt_273 rfl (by decide) (w_kidType z σ (a1) (0) ra1 (by decide) c32) ?_
    have r33 := vr_kidType σ  (a1) (0) ra1 (by decide) c32
    refine wk_b tt_285 1 (pc' := 19) (ls' := [(0, .inr (.inr (.ref 88))), (1, .inl (a1))]) (st' := [.inl ((v_kidType σ (a1) (0)))]) (σ' := σ) rfl ?_
    exact wk_ls [(0, .inr (.inr (.ref 88))), (1, .inl (a1))] rfl ⟨rfl, rfl, trivial⟩ (jn3 ((v_kidType σ (a1) (0))) (by simp only [if_neg (show ¬ ((sg_g σ 96 (a1)) ≤ 0) by omega)]) r33)
-- NestedVectorsModel.lookThrough
def V_lookThrough (σ : sg_S) (a1 : Int) (Q : sg_S → Prop) : Prop := ∀ σ1, σ1 = (sg_w σ 88 42 (1)) → ∀ σ4, σ4 = (sg_w σ1 117 (0) (a1)) → ∀ σ7, σ7 = (sg_w σ4 118 (0) (0)) → (∃ (I12 : Nat → sg_S → Prop) (X14 : sg_S → Prop), (∃ n, I12 n σ7) ∧ (∀ (n21 : Nat) (σ10 : sg_S), sg_F [101, 102, 113, 114, 115, 116, 117, 118, 30088, 31088, 38088, 43088] σ7 σ10 → I12 n21 σ10 → (((sg_g σ10 88 42) ≤ 0 → X14 σ10) ∧ (0 < (sg_g σ10 88 42) → ((¬ (sg_g σ10 88 29) = 0 → X14 σ10) ∧ ((sg_g σ10 88 29) = 0 → sg_R ((sg_g σ10 88 42) - 1) ∧ (0 ≤ ((sg_g σ10 88 42) - 1) ∧ ((sg_g σ10 88 42) - 1) < 420) ∧ (0 ≤ (sg_g σ10 117 (((sg_g σ10 88 42) - 1))) ∧ (sg_g σ10 117 (((sg_g σ10 88 42) - 1))) < 210) ∧ (∃ P30 : sg_S → Prop, ((¬ (sg_g σ 93 ((sg_g σ10 117 (((sg_g σ10 88 42) - 1))))) = 2 → P30 σ10) ∧ ((sg_g σ 93 ((sg_g σ10 117 (((sg_g σ10 88 42) - 1))))) = 2 → ((¬ (sg_g σ10 118 (((sg_g σ10 88 42) - 1))) = 1 → P30 σ10) ∧ ((sg_g σ10 118 (((sg_g σ10 88 42) - 1))) = 1 → p_kidType σ10 ((sg_g σ10 117 (((sg_g σ10 88 42) - 1)))) (0) ∧ V_know σ10 ((sg_gl σ 95 ((sg_g σ10 117 (((sg_g σ10 88 42) - 1)))))) ((sg_g σ10 117 (((sg_g σ10 88 42) - 1)))) ((v_kidType σ10 ((sg_g σ10 117 (((sg_g σ10 88 42) - 1)))) (0))) (fun σ98 => sg_F [113, 114, 115, 116, 38088] σ10 σ98 → P30 σ98))))) ∧ (∀ (σ31 : sg_S), sg_F [113, 114, 115, 116, 38088] σ10 σ31 → P30 σ31 → (∃ P36 : sg_S → Prop, ((¬ (sg_g σ 93 ((sg_g σ10 117 (((sg_g σ10 88 42) - 1))))) = 15 → P36 σ31) ∧ ((sg_g σ 93 ((sg_g σ10 117 (((sg_g σ10 88 42) - 1))))) = 15 → ((¬ (sg_g σ10 118 (((sg_g σ10 88 42) - 1))) = (sg_g σ 98 ((sg_g σ10 117 (((sg_g σ10 88 42) - 1))))) → P36 σ31) ∧ ((sg_g σ10 118 (((sg_g σ10 88 42) - 1))) = (sg_g σ 98 ((sg_g σ10 117 (((sg_g σ10 88 42) - 1))))) → V_lookGens σ31 ((sg_g σ10 117 (((sg_g σ10 88 42) - 1)))) (fun σ89 => sg_F [113, 114, 115, 116, 30088, 31088, 38088] σ31 σ89 → P36 σ89))))) ∧ (∀ (σ37 : sg_S), sg_F [113, 114, 115, 116, 30088, 31088, 38088] σ31 σ37 → P36 σ37 → p_partOf σ ((sg_g σ10 117 (((sg_g σ10 88 42) - 1)))) ((sg_g σ10 118 (((sg_g σ10 88 42) - 1)))) ∧ sg_R ((sg_g σ10 118 (((sg_g σ10 88 42) - 1))) + 1) ∧ ∀ σ43, σ43 = (sg_w σ37 118 (((sg_g σ10 88 42) - 1)) (((sg_g σ10 118 (((sg_g σ10 88 42) - 1))) + 1))) → (((sg_g σ37 88 29) = 0 → (∃ P49 : sg_S → Prop, (((v_partOf σ ((sg_g σ10 117 (((sg_g σ10 88 42) - 1)))) ((sg_g σ10 118 (((sg_g σ10 88 42) - 1))))) < 0 → ((¬ (sg_g σ 93 ((sg_g σ10 117 (((sg_g σ10 88 42) - 1))))) = 2 → ((¬ (sg_g σ 93 ((sg_g σ10 117 (((sg_g σ10 88 42) - 1))))) = 15 → True) ∧ ((sg_g σ 93 ((sg_g σ10 117 (((sg_g σ10 88 42) - 1))))) = 15 → True))) ∧ ((sg_g σ 93 ((sg_g σ10 117 (((sg_g σ10 88 42) - 1))))) = 2 → True)) ∧ ∀ v56 : Int, v56 = (if ¬ (sg_g σ 93 ((sg_g σ10 117 (((sg_g σ10 88 42) - 1))))) = 2 then (if ¬ (sg_g σ 93 ((sg_g σ10 117 (((sg_g σ10 88 42) - 1))))) = 15 then (0 : Int) else (sg_g σ 98 ((sg_g σ10 117 (((sg_g σ10 88 42) - 1)))))) else (1 : Int)) → sg_R v56 → sg_R ((sg_g σ37 88 37) - v56) ∧ ∀ σ60, σ60 = (sg_w σ43 88 37 (((sg_g σ37 88 37) - v56))) → V_lookAt σ60 ((sg_g σ10 117 (((sg_g σ10 88 42) - 1)))) (fun σ64 => sg_F [101, 102, 30088, 31088] σ60 σ64 → ∀ σ69, σ69 = (sg_w σ64 88 42 (((sg_g σ10 88 42) - 1))) → P49 σ69)) ∧ (0 ≤ (v_partOf σ ((sg_g σ10 117 (((sg_g σ10 88 42) - 1)))) ((sg_g σ10 118 (((sg_g σ10 88 42) - 1))))) → sg_R (200 * (sg_g σ10 117 (((sg_g σ10 88 42) - 1)))) ∧ sg_R ((200 * (sg_g σ10 117 (((sg_g σ10 88 42) - 1)))) + (v_partOf σ ((sg_g σ10 117 (((sg_g σ10 88 42) - 1)))) ((sg_g σ10 118 (((sg_g σ10 88 42) - 1)))))) ∧ (0 ≤ ((200 * (sg_g σ10 117 (((sg_g σ10 88 42) - 1)))) + (v_partOf σ ((sg_g σ10 117 (((sg_g σ10 88 42) - 1)))) ((sg_g σ10 118 (((sg_g σ10 88 42) - 1)))))) ∧ ((200 * (sg_g σ10 117 (((sg_g σ10 88 42) - 1)))) + (v_partOf σ ((sg_g σ10 117 (((sg_g σ10 88 42) - 1)))) ((sg_g σ10 118 (((sg_g σ10 88 42) - 1)))))) < 42000) ∧ (0 ≤ (sg_g σ10 88 42) ∧ (sg_g σ10 88 42) < 420) ∧ ∀ σ77, σ77 = (sg_w σ43 117 ((sg_g σ10 88 42)) ((sg_g σ 97 (((200 * (sg_g σ10 117 (((sg_g σ10 88 42) - 1)))) + (v_partOf σ ((sg_g σ10 117 (((sg_g σ10 88 42) - 1)))) ((sg_g σ10 118 (((sg_g σ10 88 42) - 1)))))))))) → ∀ σ80, σ80 = (sg_w σ77 118 ((sg_g σ10 88 42)) (0)) → sg_R ((sg_g σ10 88 42) + 1) ∧ ∀ σ84, σ84 = (sg_w σ80 88 42 (((sg_g σ10 88 42) + 1))) → P49 σ84)) ∧ (∀ (σ50 : sg_S), sg_F [101, 102, 117, 118, 30088, 31088, 38088, 43088] σ43 σ50 → P49 σ50 → (∃ m, m < n21 ∧ I12 m σ50)))) ∧ (¬ (sg_g σ37 88 29) = 0 → Q σ43))))))))))) ∧ (∀ (σ10 : sg_S), sg_F [101, 102, 113, 114, 115, 116, 117, 118, 30088, 31088, 38088, 43088] σ7 σ10 → X14 σ10 → Q σ10))
set_option maxHeartbeats 4000000 in
set_option maxRecDepth 8000 in
theorem w_lookThrough (z : Value) (σ : sg_S) (a1 : Int) (Q : sg_S → Prop) (ra1 : sg_R a1) (w : V_lookThrough σ a1 Q) : wx z 4 289 0 [(0, .inr (.inr (.ref 88))), (1, .inl (a1))] [] σ (fun v σ' => v = none ∧ sg_F [101, 102, 113, 114, 115, 116, 117, 118, 30088, 31088, 38088, 43088] σ σ' ∧ Q σ') := by
  unfold V_lookThrough at w
  refine wk_b tt_289 3 (pc' := 5) (ls' := [(0, .inr (.inr (.ref 88))), (1, .inl (a1))]) (st' := []) (σ' := (sg_w σ 88 42 (1))) rfl ?_
  generalize hs2 : (sg_w σ 88 42 (1)) = σ1
  have w := w σ1 hs2.symm
  have hF3 : sg_F [43088] σ σ1 := by rw [← hs2]; exact sg_F_w (sg_F_r _ _) rfl _
  refine wk_b tt_289 4 (pc' := 11) (ls' := [(0, .inr (.inr (.ref 88))), (1, .inl (a1))]) (st' := [.inl (a1), .inl (0), .inr (.inr (.ref 117))]) (σ' := σ1) rfl ?_
  refine wk_is tt_289 rfl rfl (by decide) (by decide) (by decide) ?_
  generalize hs5 : (sg_w σ1 117 (0) (a1)) = σ4
  have w := w σ4 hs5.symm
  have hF6 : sg_F [117] σ1 σ4 := by rw [← hs5]; exact sg_F_w (sg_F_r _ _) rfl _
  refine wk_b tt_289 4 (pc' := 18) (ls' := [(0, .inr (.inr (.ref 88))), (1, .inl (a1))]) (st' := [.inl (0), .inl (0), .inr (.inr (.ref 118))]) (σ' := σ4) rfl ?_
  refine wk_is tt_289 rfl rfl (by decide) (by decide) (by decide) ?_
  generalize hs8 : (sg_w σ4 118 (0) (0)) = σ7
  have w := w σ7 hs8.symm
  have hF9 : sg_F [118] σ4 σ7 := by rw [← hs8]; exact sg_F_w (sg_F_r _ _) rfl _
  obtain ⟨I12, X14, ⟨μ13, w18⟩, w19, w20⟩ := w
  have ex22 : ∀ (σ10 : sg_S), sg_F [101, 102, 113, 114, 115, 116, 117, 118, 30088, 31088, 38088, 43088] σ7 σ10 → X14 σ10 → wx z 4 289 258 [] [] σ10 (fun v σ' => v = none ∧ sg_F [101, 102, 113, 114, 115, 116, 117, 118, 30088, 31088, 38088, 43088] σ σ' ∧ Q σ') := by
    intro σ10 hF11 w
    have w := w20 σ10 hF11 w
    exact wk_rV tt_289 rfl rfl ⟨rfl, (sg_F_t (sg_F_t (sg_F_t (sg_F_t (sg_F_r [101, 102, 113, 114, 115, 116, 117, 118, 30088, 31088, 38088, 43088] σ) (sg_F_m (L := [101, 102, 113, 114, 115, 116, 117, 118, 30088, 31088, 38088, 43088]) hF3 rfl)) (sg_F_m (L := [101, 102, 113, 114, 115, 116, 117, 118, 30088, 31088, 38088, 43088]) hF6 rfl)) (sg_F_m (L := [101, 102, 113, 114, 115, 116, 117, 118, 30088, 31088, 38088, 43088]) hF9 rfl)) (sg_F_m (L := [101, 102, 113, 114, 115, 116, 117, 118, 30088, 31088, 38088, 43088]) hF11 rfl)), w⟩
  have lp17 : ∀ (n21 : Nat) (σ10 : sg_S), sg_F [101, 102, 113, 114, 115, 116, 117, 118, 30088, 31088, 38088, 43088] σ7 σ10 → I12 n21 σ10 → wx z 4 289 19 [(0, .inr (.inr (.ref 88)))] [] σ10 (fun v σ' => v = none ∧ sg_F [101, 102, 113, 114, 115, 116, 117, 118, 30088, 31088, 38088, 43088] σ σ' ∧ Q σ') := by
    intro n21
    induction n21 using Nat.strongRecOn with
    | _ n21 ih15 =>
      intro σ10 hF11 w
      have w := w19 n21 σ10 hF11 w
      refine wk_b tt_289 2 (pc' := 23) (ls' := [(0, .inr (.inr (.ref 88)))]) (st' := [.inl ((sg_g σ10 88 42))]) (σ' := σ10) rfl ?_
      refine wk_if tt_289 (tgt := 258) rfl rfl (sg_Rg _ _ _) (fun (h23 : (sg_g σ10 88 42) ≤ 0) => ?_) (fun (h23 : 0 < (sg_g σ10 88 42)) => ?_)
      ·
        have w := w.1 h23
        exact wk_ls [] rfl trivial (ex22  σ10  (sg_F_t (sg_F_r [101, 102, 113, 114, 115, 116, 117, 118, 30088, 31088, 38088, 43088] σ7) (sg_F_m (L := [101, 102, 113, 114, 115, 116, 117, 118, 30088, 31088, 38088, 43088]) hF11 rfl)) w)
      ·
        have w := w.2 h23
        refine wk_b tt_289 2 (pc' := 30) (ls' := [(0, .inr (.inr (.ref 88)))]) (st' := [.inl ((sg_g σ10 88 29))]) (σ' := σ10) rfl ?_
        refine wk_if tt_289 (tgt := 258) rfl rfl (sg_Rg _ _ _) (fun (h24 : ¬ (sg_g σ10 88 29) = 0) => ?_) (fun (h24 : (sg_g σ10 88 29) = 0) => ?_)
        ·
          have w := w.1 h24
          exact wk_ls [] rfl trivial (ex22  σ10  (sg_F_t (sg_F_r [101, 102, 113, 114, 115, 116, 117, 118, 30088, 31088, 38088, 43088] σ7) (sg_F_m (L := [101, 102, 113, 114, 115, 116, 117, 118, 30088, 31088, 38088, 43088]) hF11 rfl)) w)
        ·
          have w := w.2 h24
          obtain ⟨c25, w⟩ := w
          refine wk_b tt_289 6 (pc' := 43) (ls' := [(0, .inr (.inr (.ref 88)))]) (st' := [.inl (((sg_g σ10 88 42) - 1)), .inr (.inr (.ref 117))]) (σ' := σ10) rfl ?_
          obtain ⟨c26, w⟩ := w
          refine wk_ia tt_289 rfl rfl c26.1 c26.2 c25 ?_
          refine wk_b tt_289 7 (pc' := 55) (ls' := [(2, .inl ((sg_g σ10 117 (((sg_g σ10 88 42) - 1))))), (0, .inr (.inr (.ref 88)))]) (st' := [.inl (((sg_g σ10 88 42) - 1)), .inr (.inr (.ref 118))]) (σ' := σ10) rfl ?_
          refine wk_ia tt_289 rfl rfl c26.1 c26.2 c25 ?_
          refine wk_b tt_289 4 (pc' := 62) (ls' := [(3, .inl ((sg_g σ10 118 (((sg_g σ10 88 42) - 1))))), (2, .inl ((sg_g σ10 117 (((sg_g σ10 88 42) - 1))))), (0, .inr (.inr (.ref 88)))]) (st' := [.inl ((sg_g σ10 117 (((sg_g σ10 88 42) - 1)))), .inr (.inr (.ref 93))]) (σ' := σ10) rfl ?_
          obtain ⟨c27, w⟩ := w
          refine wk_ia tt_289 rfl rfl c27.1 c27.2 (sg_Rg _ _ _) ?_
          rw [show (sg_g σ10 93 ((sg_g σ10 117 (((sg_g σ10 88 42) - 1))))) = (sg_g σ 93 ((sg_g σ10 117 (((sg_g σ10 88 42) - 1))))) from by rw [sg_F_ga hF11 rfl, sg_F_ga hF9 rfl, sg_F_ga hF6 rfl, sg_F_ga hF3 rfl]]
          refine wk_b tt_289 1 (pc' := 64) (ls' := [(3, .inl ((sg_g σ10 118 (((sg_g σ10 88 42) - 1))))), (2, .inl ((sg_g σ10 117 (((sg_g σ10 88 42) - 1))))), (0, .inr (.inr (.ref 88)))]) (st' := [.inl (2), .inl ((sg_g σ 93 ((sg_g σ10 117 (((sg_g σ10 88 42) - 1))))))]) (σ' := σ10) rfl ?_
          obtain ⟨P30, w, w33⟩ := w
          have jn29 : ∀ (σ31 : sg_S), sg_F [113, 114, 115, 116, 38088] σ10 σ31 → P30 σ31 → wx z 4 289 89 [(0, .inr (.inr (.ref 88))), (2, .inl ((sg_g σ10 117 (((sg_g σ10 88 42) - 1))))), (3, .inl ((sg_g σ10 118 (((sg_g σ10 88 42) - 1)))))] [] σ31 (fun v σ' => v = none ∧ sg_F [101, 102, 113, 114, 115, 116, 117, 118, 30088, 31088, 38088, 43088] σ σ' ∧ Q σ') := by
            intro σ31 hF32 w
            have w := w33 σ31 hF32 w
            refine wk_b tt_289 3 (pc' := 94) (ls' := [(0, .inr (.inr (.ref 88))), (2, .inl ((sg_g σ10 117 (((sg_g σ10 88 42) - 1))))), (3, .inl ((sg_g σ10 118 (((sg_g σ10 88 42) - 1)))))]) (st' := [.inl ((sg_g σ10 117 (((sg_g σ10 88 42) - 1)))), .inr (.inr (.ref 93))]) (σ' := σ31) rfl ?_
            refine wk_ia tt_289 rfl rfl c27.1 c27.2 (sg_Rg _ _ _) ?_
            rw [show (sg_g σ31 93 ((sg_g σ10 117 (((sg_g σ10 88 42) - 1))))) = (sg_g σ 93 ((sg_g σ10 117 (((sg_g σ10 88 42) - 1))))) from by rw [sg_F_ga hF32 rfl, sg_F_ga hF11 rfl, sg_F_ga hF9 rfl, sg_F_ga hF6 rfl, sg_F_ga hF3 rfl]]
            refine wk_b tt_289 1 (pc' := 97) (ls' := [(0, .inr (.inr (.ref 88))), (2, .inl ((sg_g σ10 117 (((sg_g σ10 88 42) - 1))))), (3, .inl ((sg_g σ10 118 (((sg_g σ10 88 42) - 1)))))]) (st' := [.inl (15), .inl ((sg_g σ 93 ((sg_g σ10 117 (((sg_g σ10 88 42) - 1))))))]) (σ' := σ31) rfl ?_
            obtain ⟨P36, w, w39⟩ := w
            have jn35 : ∀ (σ37 : sg_S), sg_F [113, 114, 115, 116, 30088, 31088, 38088] σ31 σ37 → P36 σ37 → wx z 4 289 115 [(0, .inr (.inr (.ref 88))), (2, .inl ((sg_g σ10 117 (((sg_g σ10 88 42) - 1))))), (3, .inl ((sg_g σ10 118 (((sg_g σ10 88 42) - 1)))))] [] σ37 (fun v σ' => v = none ∧ sg_F [101, 102, 113, 114, 115, 116, 117, 118, 30088, 31088, 38088, 43088] σ σ' ∧ Q σ') := by
              intro σ37 hF38 w
              have w := w39 σ37 hF38 w
              refine wk_b tt_289 3 (pc' := 118) (ls' := [(0, .inr (.inr (.ref 88))), (2, .inl ((sg_g σ10 117 (((sg_g σ10 88 42) - 1))))), (3, .inl ((sg_g σ10 118 (((sg_g σ10 88 42) - 1)))))]) (st' := [.inl ((sg_g σ10 118 (((sg_g σ10 88 42) - 1)))), .inl ((sg_g σ10 117 (((sg_g σ10 88 42) - 1)))), .inr (.inr (.ref 88))]) (σ' := σ37) rfl ?_
              obtain ⟨c40, w⟩ := w
              have c40 : p_partOf σ37 ((sg_g σ10 117 (((sg_g σ10 88 42) - 1)))) ((sg_g σ10 118 (((sg_g σ10 88 42) - 1)))) := by
                rw [pF_partOf hF38 rfl rfl rfl, pF_partOf hF32 rfl rfl rfl, pF_partOf hF11 rfl rfl rfl, pF_partOf hF9 rfl rfl rfl, pF_partOf hF6 rfl rfl rfl, pF_partOf hF3 rfl rfl rfl]; exact c40
              refine wk_callp tt_289 rfl rfl rfl rfl rfl tt_302 rfl (by decide) (w_partOf z σ37 ((sg_g σ10 117 (((sg_g σ10 88 42) - 1)))) ((sg_g σ10 118 (((sg_g σ10 88 42) - 1)))) (sg_Rg _ _ _) (sg_Rg _ _ _) c40) ?_
              rw [vF_partOf hF38 rfl rfl rfl, vF_partOf hF32 rfl rfl rfl, vF_partOf hF11 rfl rfl rfl, vF_partOf hF9 rfl rfl rfl, vF_partOf hF6 rfl rfl rfl, vF_partOf hF3 rfl rfl rfl]
              have r41 := vr_partOf σ  ((sg_g σ10 117 (((sg_g σ10 88 42) - 1)))) ((sg_g σ10 118 (((sg_g σ10 88 42) - 1)))) (sg_Rg _ _ _) (sg_Rg _ _ _) (by have q := c40; rw [pF_partOf hF38 rfl rfl rfl, pF_partOf hF32 rfl rfl rfl, pF_partOf hF11 rfl rfl rfl, pF_partOf hF9 rfl rfl rfl, pF_partOf hF6 rfl rfl rfl, pF_partOf hF3 rfl rfl rfl] at q; exact q)
              refine wk_b tt_289 8 (pc' := 134) (ls' := [(4, .inl ((v_partOf σ ((sg_g σ10 117 (((sg_g σ10 88 42) - 1)))) ((sg_g σ10 118 (((sg_g σ10 88 42) - 1))))))), (0, .inr (.inr (.ref 88))), (2, .inl ((sg_g σ10 117 (((sg_g σ10 88 42) - 1))))), (3, .inl ((sg_g σ10 118 (((sg_g σ10 88 42) - 1)))))]) (st' := [.inl (((sg_g σ37 88 42) - 1)), .inr (.inr (.ref 118)), .inl (((sg_g σ37 88 42) - 1)), .inr (.inr (.ref 118))]) (σ' := σ37) rfl ?_
              rw [show (sg_g σ37 88 42) = (sg_g σ10 88 42) from by rw [sg_F_g hF38 rfl, sg_F_g hF32 rfl]]
              refine wk_ia tt_289 rfl rfl c26.1 c26.2 c25 ?_
              rw [show (sg_g σ37 118 (((sg_g σ10 88 42) - 1))) = (sg_g σ10 118 (((sg_g σ10 88 42) - 1))) from by rw [sg_F_ga hF38 rfl, sg_F_ga hF32 rfl]]
              obtain ⟨c42, w⟩ := w
              refine wk_b tt_289 2 (pc' := 137) (ls' := [(4, .inl ((v_partOf σ ((sg_g σ10 117 (((sg_g σ10 88 42) - 1)))) ((sg_g σ10 118 (((sg_g σ10 88 42) - 1))))))), (0, .inr (.inr (.ref 88))), (2, .inl ((sg_g σ10 117 (((sg_g σ10 88 42) - 1))))), (3, .inl ((sg_g σ10 118 (((sg_g σ10 88 42) - 1)))))]) (st' := [.inl (((sg_g σ10 118 (((sg_g σ10 88 42) - 1))) + 1)), .inl (((sg_g σ10 88 42) - 1)), .inr (.inr (.ref 118))]) (σ' := σ37) rfl ?_
              refine wk_is tt_289 rfl rfl c26.1 c26.2 c25 ?_
              generalize hs44 : (sg_w σ37 118 (((sg_g σ10 88 42) - 1)) (((sg_g σ10 118 (((sg_g σ10 88 42) - 1))) + 1))) = σ43
              have w := w σ43 hs44.symm
              have hF45 : sg_F [118] σ37 σ43 := by rw [← hs44]; exact sg_F_w (sg_F_r _ _) rfl _
              refine wk_b tt_289 2 (pc' := 142) (ls' := [(4, .inl ((v_partOf σ ((sg_g σ10 117 (((sg_g σ10 88 42) - 1)))) ((sg_g σ10 118 (((sg_g σ10 88 42) - 1))))))), (0, .inr (.inr (.ref 88))), (2, .inl ((sg_g σ10 117 (((sg_g σ10 88 42) - 1))))), (3, .inl ((sg_g σ10 118 (((sg_g σ10 88 42) - 1)))))]) (st' := [.inl ((sg_g σ43 88 29))]) (σ' := σ43) rfl ?_
              rw [show (sg_g σ43 88 29) = (sg_g σ37 88 29) from by rw [sg_F_ga hF45 rfl]]
              refine wk_if tt_289 (tgt := 146) rfl rfl (sg_Rg _ _ _) (fun (h46 : (sg_g σ37 88 29) = 0) => ?_) (fun (h46 : ¬ (sg_g σ37 88 29) = 0) => ?_)
              ·
                have w := w.1 h46
                refine wk_b tt_289 1 (pc' := 148) (ls' := [(4, .inl ((v_partOf σ ((sg_g σ10 117 (((sg_g σ10 88 42) - 1)))) ((sg_g σ10 118 (((sg_g σ10 88 42) - 1))))))), (0, .inr (.inr (.ref 88))), (2, .inl ((sg_g σ10 117 (((sg_g σ10 88 42) - 1))))), (3, .inl ((sg_g σ10 118 (((sg_g σ10 88 42) - 1)))))]) (st' := [.inl ((v_partOf σ ((sg_g σ10 117 (((sg_g σ10 88 42) - 1)))) ((sg_g σ10 118 (((sg_g σ10 88 42) - 1))))))]) (σ' := σ43) rfl ?_
                obtain ⟨P49, w, w52⟩ := w
                have jn48 : ∀ (σ50 : sg_S), sg_F [101, 102, 117, 118, 30088, 31088, 38088, 43088] σ43 σ50 → P49 σ50 → wx z 4 289 255 [(0, .inr (.inr (.ref 88)))] [] σ50 (fun v σ' => v = none ∧ sg_F [101, 102, 113, 114, 115, 116, 117, 118, 30088, 31088, 38088, 43088] σ σ' ∧ Q σ') := by
                  intro σ50 hF51 w
                  have w := w52 σ50 hF51 w
                  refine wk_b tt_289 1 (pc' := 19) (ls' := [(0, .inr (.inr (.ref 88)))]) (st' := []) (σ' := σ50) rfl ?_
                  obtain ⟨m53, hm53, w⟩ := w
                  exact wk_ls [(0, .inr (.inr (.ref 88)))] rfl ⟨rfl, trivial⟩ (ih15 m53 hm53  σ50  (sg_F_t (sg_F_t (sg_F_t (sg_F_t (sg_F_t (sg_F_r [101, 102, 113, 114, 115, 116, 117, 118, 30088, 31088, 38088, 43088] σ7) (sg_F_m (L := [101, 102, 113, 114, 115, 116, 117, 118, 30088, 31088, 38088, 43088]) hF11 rfl)) (sg_F_m (L := [101, 102, 113, 114, 115, 116, 117, 118, 30088, 31088, 38088, 43088]) hF32 rfl)) (sg_F_m (L := [101, 102, 113, 114, 115, 116, 117, 118, 30088, 31088, 38088, 43088]) hF38 rfl)) (sg_F_m (L := [101, 102, 113, 114, 115, 116, 117, 118, 30088, 31088, 38088, 43088]) hF45 rfl)) (sg_F_m (L := [101, 102, 113, 114, 115, 116, 117, 118, 30088, 31088, 38088, 43088]) hF51 rfl)) w)
                refine wk_if tt_289 (tgt := 196) rfl rfl r41 (fun (h47 : (v_partOf σ ((sg_g σ10 117 (((sg_g σ10 88 42) - 1)))) ((sg_g σ10 118 (((sg_g σ10 88 42) - 1))))) < 0) => ?_) (fun (h47 : 0 ≤ (v_partOf σ ((sg_g σ10 117 (((sg_g σ10 88 42) - 1)))) ((sg_g σ10 118 (((sg_g σ10 88 42) - 1)))))) => ?_)
                ·
                  have w := w.1 h47
                  refine wk_b tt_289 6 (pc' := 206) (ls' := [(4, .inl ((v_partOf σ ((sg_g σ10 117 (((sg_g σ10 88 42) - 1)))) ((sg_g σ10 118 (((sg_g σ10 88 42) - 1))))))), (0, .inr (.inr (.ref 88))), (2, .inl ((sg_g σ10 117 (((sg_g σ10 88 42) - 1))))), (3, .inl ((sg_g σ10 118 (((sg_g σ10 88 42) - 1)))))]) (st' := [.inl ((sg_g σ10 117 (((sg_g σ10 88 42) - 1)))), .inr (.inr (.ref 93)), .inl ((sg_g σ43 88 37)), .inr (.inr (.ref 88))]) (σ' := σ43) rfl ?_
                  rw [show (sg_g σ43 88 37) = (sg_g σ37 88 37) from by rw [sg_F_ga hF45 rfl]]
                  refine wk_ia tt_289 rfl rfl c27.1 c27.2 (sg_Rg _ _ _) ?_
                  rw [show (sg_g σ43 93 ((sg_g σ10 117 (((sg_g σ10 88 42) - 1))))) = (sg_g σ 93 ((sg_g σ10 117 (((sg_g σ10 88 42) - 1))))) from by rw [sg_F_ga hF45 rfl, sg_F_ga hF38 rfl, sg_F_ga hF32 rfl, sg_F_ga hF11 rfl, sg_F_ga hF9 rfl, sg_F_ga hF6 rfl, sg_F_ga hF3 rfl]]
                  refine wk_b tt_289 1 (pc' := 208) (ls' := [(4, .inl ((v_partOf σ ((sg_g σ10 117 (((sg_g σ10 88 42) - 1)))) ((sg_g σ10 118 (((sg_g σ10 88 42) - 1))))))), (0, .inr (.inr (.ref 88))), (2, .inl ((sg_g σ10 117 (((sg_g σ10 88 42) - 1))))), (3, .inl ((sg_g σ10 118 (((sg_g σ10 88 42) - 1)))))]) (st' := [.inl (2), .inl ((sg_g σ 93 ((sg_g σ10 117 (((sg_g σ10 88 42) - 1)))))), .inl ((sg_g σ37 88 37)), .inr (.inr (.ref 88))]) (σ' := σ43) rfl ?_
                  obtain ⟨wp, w⟩ := w
                  have jn55 : ∀ v56 : Int, v56 = (if ¬ (sg_g σ 93 ((sg_g σ10 117 (((sg_g σ10 88 42) - 1))))) = 2 then (if ¬ (sg_g σ 93 ((sg_g σ10 117 (((sg_g σ10 88 42) - 1))))) = 15 then (0 : Int) else (sg_g σ 98 ((sg_g σ10 117 (((sg_g σ10 88 42) - 1)))))) else (1 : Int)) → sg_R v56 → wx z 4 289 236 [(0, .inr (.inr (.ref 88))), (2, .inl ((sg_g σ10 117 (((sg_g σ10 88 42) - 1)))))] [.inl (v56), .inl ((sg_g σ37 88 37)), .inr (.inr (.ref 88))] σ43 (fun v σ' => v = none ∧ sg_F [101, 102, 113, 114, 115, 116, 117, 118, 30088, 31088, 38088, 43088] σ σ' ∧ Q σ') := by
                    intro v56 e58 r57
                    have w := w v56 e58 r57
                    obtain ⟨c59, w⟩ := w
                    refine wk_b tt_289 2 (pc' := 240) (ls' := [(0, .inr (.inr (.ref 88))), (2, .inl ((sg_g σ10 117 (((sg_g σ10 88 42) - 1)))))]) (st' := []) (σ' := (sg_w σ43 88 37 (((sg_g σ37 88 37) - v56)))) rfl ?_
                    generalize hs61 : (sg_w σ43 88 37 (((sg_g σ37 88 37) - v56))) = σ60
                    have w := w σ60 hs61.symm
                    have hF62 : sg_F [38088] σ43 σ60 := by rw [← hs61]; exact sg_F_w (sg_F_r _ _) rfl _
                    refine wk_b tt_289 2 (pc' := 242) (ls' := [(0, .inr (.inr (.ref 88))), (2, .inl ((sg_g σ10 117 (((sg_g σ10 88 42) - 1)))))]) (st' := [.inl ((sg_g σ10 117 (((sg_g σ10 88 42) - 1)))), .inr (.inr (.ref 88))]) (σ' := σ60) rfl ?_
                    refine wk_call tt_289 rfl rfl rfl rfl rfl tt_285 rfl (by decide) (w_lookAt z σ60 ((sg_g σ10 117 (((sg_g σ10 88 42) - 1)))) _ (sg_Rg _ _ _) w) (fun u68 σ64 hq66 => ?_)
                    obtain ⟨rfl, hF65, w⟩ := hq66
                    have w := w hF65
                    refine wk_b tt_289 6 (pc' := 255) (ls' := [(0, .inr (.inr (.ref 88))), (2, .inl ((sg_g σ10 117 (((sg_g σ10 88 42) - 1)))))]) (st' := []) (σ' := (sg_w σ64 88 42 (((sg_g σ64 88 42) - 1)))) rfl ?_
                    rw [show (sg_g σ64 88 42) = (sg_g σ10 88 42) from by rw [sg_F_g hF65 rfl, sg_F_g hF62 rfl, sg_F_ga hF45 rfl, sg_F_g hF38 rfl, sg_F_g hF32 rfl]]
                    generalize hs70 : (sg_w σ64 88 42 (((sg_g σ10 88 42) - 1))) = σ69
                    have w := w σ69 hs70.symm
                    have hF71 : sg_F [43088] σ64 σ69 := by rw [← hs70]; exact sg_F_w (sg_F_r _ _) rfl _
                    exact wk_ls [(0, .inr (.inr (.ref 88)))] rfl ⟨rfl, trivial⟩ (jn48 σ69 (sg_F_t (sg_F_t (sg_F_t (sg_F_r [101, 102, 117, 118, 30088, 31088, 38088, 43088] σ43) (sg_F_m (L := [101, 102, 117, 118, 30088, 31088, 38088, 43088]) hF62 rfl)) (sg_F_m (L := [101, 102, 117, 118, 30088, 31088, 38088, 43088]) hF65 rfl)) (sg_F_m (L := [101, 102, 117, 118, 30088, 31088, 38088, 43088]) hF71 rfl)) w)
                  have w := wp
                  refine wk_if2 tt_289 (tgt := 215) rfl rfl (sg_Rg _ _ _) (by decide) (fun (h54 : ¬ (sg_g σ 93 ((sg_g σ10 117 (((sg_g σ10 88 42) - 1))))) = 2) => ?_) (fun (h54 : (sg_g σ 93 ((sg_g σ10 117 (((sg_g σ10 88 42) - 1))))) = 2) => ?_)
                  ·
                    have w := w.1 h54
                    refine wk_b tt_289 3 (pc' := 220) (ls' := [(4, .inl ((v_partOf σ ((sg_g σ10 117 (((sg_g σ10 88 42) - 1)))) ((sg_g σ10 118 (((sg_g σ10 88 42) - 1))))))), (0, .inr (.inr (.ref 88))), (2, .inl ((sg_g σ10 117 (((sg_g σ10 88 42) - 1))))), (3, .inl ((sg_g σ10 118 (((sg_g σ10 88 42) - 1)))))]) (st' := [.inl ((sg_g σ10 117 (((sg_g σ10 88 42) - 1)))), .inr (.inr (.ref 93)), .inl ((sg_g σ37 88 37)), .inr (.inr (.ref 88))]) (σ' := σ43) rfl ?_
                    refine wk_ia tt_289 rfl rfl c27.1 c27.2 (sg_Rg _ _ _) ?_
                    rw [show (sg_g σ43 93 ((sg_g σ10 117 (((sg_g σ10 88 42) - 1))))) = (sg_g σ 93 ((sg_g σ10 117 (((sg_g σ10 88 42) - 1))))) from by rw [sg_F_ga hF45 rfl, sg_F_ga hF38 rfl, sg_F_ga hF32 rfl, sg_F_ga hF11 rfl, sg_F_ga hF9 rfl, sg_F_ga hF6 rfl, sg_F_ga hF3 rfl]]
                    refine wk_b tt_289 1 (pc' := 223) (ls' := [(4, .inl ((v_partOf σ ((sg_g σ10 117 (((sg_g σ10 88 42) - 1)))) ((sg_g σ10 118 (((sg_g σ10 88 42) - 1))))))), (0, .inr (.inr (.ref 88))), (2, .inl ((sg_g σ10 117 (((sg_g σ10 88 42) - 1))))), (3, .inl ((sg_g σ10 118 (((sg_g σ10 88 42) - 1)))))]) (st' := [.inl (15), .inl ((sg_g σ 93 ((sg_g σ10 117 (((sg_g σ10 88 42) - 1)))))), .inl ((sg_g σ37 88 37)), .inr (.inr (.ref 88))]) (σ' := σ43) rfl ?_
                    refine wk_if2 tt_289 (tgt := 235) rfl rfl (sg_Rg _ _ _) (by decide) (fun (h72 : ¬ (sg_g σ 93 ((sg_g σ10 117 (((sg_g σ10 88 42) - 1))))) = 15) => ?_) (fun (h72 : (sg_g σ 93 ((sg_g σ10 117 (((sg_g σ10 88 42) - 1))))) = 15) => ?_)
                    ·
                      have w := w.1 h72
                      refine wk_b tt_289 1 (pc' := 236) (ls' := [(4, .inl ((v_partOf σ ((sg_g σ10 117 (((sg_g σ10 88 42) - 1)))) ((sg_g σ10 118 (((sg_g σ10 88 42) - 1))))))), (0, .inr (.inr (.ref 88))), (2, .inl ((sg_g σ10 117 (((sg_g σ10 88 42) - 1))))), (3, .inl ((sg_g σ10 118 (((sg_g σ10 88 42) - 1)))))]) (st' := [.inl (0), .inl ((sg_g σ37 88 37)), .inr (.inr (.ref 88))]) (σ' := σ43) rfl ?_
                      exact wk_ls [(0, .inr (.inr (.ref 88))), (2, .inl ((sg_g σ10 117 (((sg_g σ10 88 42) - 1)))))] rfl ⟨rfl, rfl, trivial⟩ (jn55 (0) (by simp only [if_pos h54, if_pos h72]) (by decide))
                    ·
                      have w := w.2 h72
                      refine wk_b tt_289 3 (pc' := 231) (ls' := [(4, .inl ((v_partOf σ ((sg_g σ10 117 (((sg_g σ10 88 42) - 1)))) ((sg_g σ10 118 (((sg_g σ10 88 42) - 1))))))), (0, .inr (.inr (.ref 88))), (2, .inl ((sg_g σ10 117 (((sg_g σ10 88 42) - 1))))), (3, .inl ((sg_g σ10 118 (((sg_g σ10 88 42) - 1)))))]) (st' := [.inl ((sg_g σ10 117 (((sg_g σ10 88 42) - 1)))), .inr (.inr (.ref 98)), .inl ((sg_g σ37 88 37)), .inr (.inr (.ref 88))]) (σ' := σ43) rfl ?_
                      refine wk_ia tt_289 rfl rfl c27.1 c27.2 (sg_Rg _ _ _) ?_
                      rw [show (sg_g σ43 98 ((sg_g σ10 117 (((sg_g σ10 88 42) - 1))))) = (sg_g σ 98 ((sg_g σ10 117 (((sg_g σ10 88 42) - 1))))) from by rw [sg_F_ga hF45 rfl, sg_F_ga hF38 rfl, sg_F_ga hF32 rfl, sg_F_ga hF11 rfl, sg_F_ga hF9 rfl, sg_F_ga hF6 rfl, sg_F_ga hF3 rfl]]
                      refine wk_b tt_289 1 (pc' := 236) (ls' := [(4, .inl ((v_partOf σ ((sg_g σ10 117 (((sg_g σ10 88 42) - 1)))) ((sg_g σ10 118 (((sg_g σ10 88 42) - 1))))))), (0, .inr (.inr (.ref 88))), (2, .inl ((sg_g σ10 117 (((sg_g σ10 88 42) - 1))))), (3, .inl ((sg_g σ10 118 (((sg_g σ10 88 42) - 1)))))]) (st' := [.inl ((sg_g σ 98 ((sg_g σ10 117 (((sg_g σ10 88 42) - 1)))))), .inl ((sg_g σ37 88 37)), .inr (.inr (.ref 88))]) (σ' := σ43) rfl ?_
                      exact wk_ls [(0, .inr (.inr (.ref 88))), (2, .inl ((sg_g σ10 117 (((sg_g σ10 88 42) - 1)))))] rfl ⟨rfl, rfl, trivial⟩ (jn55 ((sg_g σ 98 ((sg_g σ10 117 (((sg_g σ10 88 42) - 1)))))) (by simp only [if_pos h54, if_neg (show ¬ (¬ (sg_g σ 93 ((sg_g σ10 117 (((sg_g σ10 88 42) - 1))))) = 15) by omega)]) (sg_Rg _ _ _))
                  ·
                    have w := w.2 h54
                    refine wk_b tt_289 2 (pc' := 236) (ls' := [(4, .inl ((v_partOf σ ((sg_g σ10 117 (((sg_g σ10 88 42) - 1)))) ((sg_g σ10 118 (((sg_g σ10 88 42) - 1))))))), (0, .inr (.inr (.ref 88))), (2, .inl ((sg_g σ10 117 (((sg_g σ10 88 42) - 1))))), (3, .inl ((sg_g σ10 118 (((sg_g σ10 88 42) - 1)))))]) (st' := [.inl (1), .inl ((sg_g σ37 88 37)), .inr (.inr (.ref 88))]) (σ' := σ43) rfl ?_
                    exact wk_ls [(0, .inr (.inr (.ref 88))), (2, .inl ((sg_g σ10 117 (((sg_g σ10 88 42) - 1)))))] rfl ⟨rfl, rfl, trivial⟩ (jn55 (1) (by simp only [if_neg (show ¬ (¬ (sg_g σ 93 ((sg_g σ10 117 (((sg_g σ10 88 42) - 1))))) = 2) by omega)]) (by decide))
                ·
                  have w := w.2 h47
                  obtain ⟨c73, w⟩ := w
                  obtain ⟨c74, w⟩ := w
                  refine wk_b tt_289 11 (pc' := 171) (ls' := [(4, .inl ((v_partOf σ ((sg_g σ10 117 (((sg_g σ10 88 42) - 1)))) ((sg_g σ10 118 (((sg_g σ10 88 42) - 1))))))), (0, .inr (.inr (.ref 88))), (2, .inl ((sg_g σ10 117 (((sg_g σ10 88 42) - 1))))), (3, .inl ((sg_g σ10 118 (((sg_g σ10 88 42) - 1)))))]) (st' := [.inl (((200 * (sg_g σ10 117 (((sg_g σ10 88 42) - 1)))) + (v_partOf σ ((sg_g σ10 117 (((sg_g σ10 88 42) - 1)))) ((sg_g σ10 118 (((sg_g σ10 88 42) - 1))))))), .inr (.inr (.ref 97)), .inl ((sg_g σ43 88 42)), .inr (.inr (.ref 117))]) (σ' := σ43) rfl ?_
                  rw [show (sg_g σ43 88 42) = (sg_g σ10 88 42) from by rw [sg_F_ga hF45 rfl, sg_F_g hF38 rfl, sg_F_g hF32 rfl]]
                  obtain ⟨c75, w⟩ := w
                  refine wk_ia tt_289 rfl rfl c75.1 c75.2 c74 ?_
                  rw [show (sg_g σ43 97 (((200 * (sg_g σ10 117 (((sg_g σ10 88 42) - 1)))) + (v_partOf σ ((sg_g σ10 117 (((sg_g σ10 88 42) - 1)))) ((sg_g σ10 118 (((sg_g σ10 88 42) - 1)))))))) = (sg_g σ 97 (((200 * (sg_g σ10 117 (((sg_g σ10 88 42) - 1)))) + (v_partOf σ ((sg_g σ10 117 (((sg_g σ10 88 42) - 1)))) ((sg_g σ10 118 (((sg_g σ10 88 42) - 1)))))))) from by rw [sg_F_ga hF45 rfl, sg_F_ga hF38 rfl, sg_F_ga hF32 rfl, sg_F_ga hF11 rfl, sg_F_ga hF9 rfl, sg_F_ga hF6 rfl, sg_F_ga hF3 rfl]]
                  obtain ⟨c76, w⟩ := w
                  refine wk_is tt_289 rfl rfl c76.1 c76.2 (sg_Rg _ _ _) ?_
                  generalize hs78 : (sg_w σ43 117 ((sg_g σ10 88 42)) ((sg_g σ 97 (((200 * (sg_g σ10 117 (((sg_g σ10 88 42) - 1)))) + (v_partOf σ ((sg_g σ10 117 (((sg_g σ10 88 42) - 1)))) ((sg_g σ10 118 (((sg_g σ10 88 42) - 1)))))))))) = σ77
                  have w := w σ77 hs78.symm
                  have hF79 : sg_F [117] σ43 σ77 := by rw [← hs78]; exact sg_F_w (sg_F_r _ _) rfl _
                  refine wk_b tt_289 5 (pc' := 182) (ls' := [(4, .inl ((v_partOf σ ((sg_g σ10 117 (((sg_g σ10 88 42) - 1)))) ((sg_g σ10 118 (((sg_g σ10 88 42) - 1))))))), (0, .inr (.inr (.ref 88))), (2, .inl ((sg_g σ10 117 (((sg_g σ10 88 42) - 1))))), (3, .inl ((sg_g σ10 118 (((sg_g σ10 88 42) - 1)))))]) (st' := [.inl (0), .inl ((sg_g σ77 88 42)), .inr (.inr (.ref 118))]) (σ' := σ77) rfl ?_
                  rw [show (sg_g σ77 88 42) = (sg_g σ10 88 42) from by rw [sg_F_ga hF79 rfl, sg_F_ga hF45 rfl, sg_F_g hF38 rfl, sg_F_g hF32 rfl]]
                  refine wk_is tt_289 rfl rfl c76.1 c76.2 (sg_Rg _ _ _) ?_
                  generalize hs81 : (sg_w σ77 118 ((sg_g σ10 88 42)) (0)) = σ80
                  have w := w σ80 hs81.symm
                  have hF82 : sg_F [118] σ77 σ80 := by rw [← hs81]; exact sg_F_w (sg_F_r _ _) rfl _
                  obtain ⟨c83, w⟩ := w
                  refine wk_b tt_289 6 (pc' := 193) (ls' := [(4, .inl ((v_partOf σ ((sg_g σ10 117 (((sg_g σ10 88 42) - 1)))) ((sg_g σ10 118 (((sg_g σ10 88 42) - 1))))))), (0, .inr (.inr (.ref 88))), (2, .inl ((sg_g σ10 117 (((sg_g σ10 88 42) - 1))))), (3, .inl ((sg_g σ10 118 (((sg_g σ10 88 42) - 1)))))]) (st' := []) (σ' := (sg_w σ80 88 42 (((sg_g σ80 88 42) + 1)))) rfl ?_
                  rw [show (sg_g σ80 88 42) = (sg_g σ10 88 42) from by rw [sg_F_ga hF82 rfl, sg_F_ga hF79 rfl, sg_F_ga hF45 rfl, sg_F_g hF38 rfl, sg_F_g hF32 rfl]]
                  generalize hs85 : (sg_w σ80 88 42 (((sg_g σ10 88 42) + 1))) = σ84
                  have w := w σ84 hs85.symm
                  have hF86 : sg_F [43088] σ80 σ84 := by rw [← hs85]; exact sg_F_w (sg_F_r _ _) rfl _
                  refine wk_b tt_289 1 (pc' := 255) (ls' := [(4, .inl ((v_partOf σ ((sg_g σ10 117 (((sg_g σ10 88 42) - 1)))) ((sg_g σ10 118 (((sg_g σ10 88 42) - 1))))))), (0, .inr (.inr (.ref 88))), (2, .inl ((sg_g σ10 117 (((sg_g σ10 88 42) - 1))))), (3, .inl ((sg_g σ10 118 (((sg_g σ10 88 42) - 1)))))]) (st' := []) (σ' := σ84) rfl ?_
                  exact wk_ls [(0, .inr (.inr (.ref 88)))] rfl ⟨rfl, trivial⟩ (jn48 σ84 (sg_F_t (sg_F_t (sg_F_t (sg_F_r [101, 102, 117, 118, 30088, 31088, 38088, 43088] σ43) (sg_F_m (L := [101, 102, 117, 118, 30088, 31088, 38088, 43088]) hF79 rfl)) (sg_F_m (L := [101, 102, 117, 118, 30088, 31088, 38088, 43088]) hF82 rfl)) (sg_F_m (L := [101, 102, 117, 118, 30088, 31088, 38088, 43088]) hF86 rfl)) w)
              ·
                have w := w.2 h46
                exact wk_rV tt_289 rfl rfl ⟨rfl, (sg_F_t (sg_F_t (sg_F_t (sg_F_t (sg_F_t (sg_F_t (sg_F_t (sg_F_r [101, 102, 113, 114, 115, 116, 117, 118, 30088, 31088, 38088, 43088] σ) (sg_F_m (L := [101, 102, 113, 114, 115, 116, 117, 118, 30088, 31088, 38088, 43088]) hF3 rfl)) (sg_F_m (L := [101, 102, 113, 114, 115, 116, 117, 118, 30088, 31088, 38088, 43088]) hF6 rfl)) (sg_F_m (L := [101, 102, 113, 114, 115, 116, 117, 118, 30088, 31088, 38088, 43088]) hF9 rfl)) (sg_F_m (L := [101, 102, 113, 114, 115, 116, 117, 118, 30088, 31088, 38088, 43088]) hF11 rfl)) (sg_F_m (L := [101, 102, 113, 114, 115, 116, 117, 118, 30088, 31088, 38088, 43088]) hF32 rfl)) (sg_F_m (L := [101, 102, 113, 114, 115, 116, 117, 118, 30088, 31088, 38088, 43088]) hF38 rfl)) (sg_F_m (L := [101, 102, 113, 114, 115, 116, 117, 118, 30088, 31088, 38088, 43088]) hF45 rfl)), w⟩
            refine wk_if2 tt_289 (tgt := 115) rfl rfl (sg_Rg _ _ _) (by decide) (fun (h34 : ¬ (sg_g σ 93 ((sg_g σ10 117 (((sg_g σ10 88 42) - 1))))) = 15) => ?_) (fun (h34 : (sg_g σ 93 ((sg_g σ10 117 (((sg_g σ10 88 42) - 1))))) = 15) => ?_)
            ·
              have w := w.1 h34
              exact wk_ls [(0, .inr (.inr (.ref 88))), (2, .inl ((sg_g σ10 117 (((sg_g σ10 88 42) - 1))))), (3, .inl ((sg_g σ10 118 (((sg_g σ10 88 42) - 1)))))] rfl ⟨rfl, rfl, rfl, trivial⟩ (jn35 σ31 (sg_F_r [113, 114, 115, 116, 30088, 31088, 38088] σ31) w)
            ·
              have w := w.2 h34
              refine wk_b tt_289 4 (pc' := 106) (ls' := [(0, .inr (.inr (.ref 88))), (2, .inl ((sg_g σ10 117 (((sg_g σ10 88 42) - 1))))), (3, .inl ((sg_g σ10 118 (((sg_g σ10 88 42) - 1)))))]) (st' := [.inl ((sg_g σ10 117 (((sg_g σ10 88 42) - 1)))), .inr (.inr (.ref 98)), .inl ((sg_g σ10 118 (((sg_g σ10 88 42) - 1))))]) (σ' := σ31) rfl ?_
              refine wk_ia tt_289 rfl rfl c27.1 c27.2 (sg_Rg _ _ _) ?_
              rw [show (sg_g σ31 98 ((sg_g σ10 117 (((sg_g σ10 88 42) - 1))))) = (sg_g σ 98 ((sg_g σ10 117 (((sg_g σ10 88 42) - 1))))) from by rw [sg_F_ga hF32 rfl, sg_F_ga hF11 rfl, sg_F_ga hF9 rfl, sg_F_ga hF6 rfl, sg_F_ga hF3 rfl]]
              refine wk_if2 tt_289 (tgt := 115) rfl rfl (sg_Rg _ _ _) (sg_Rg _ _ _) (fun (h87 : ¬ (sg_g σ10 118 (((sg_g σ10 88 42) - 1))) = (sg_g σ 98 ((sg_g σ10 117 (((sg_g σ10 88 42) - 1)))))) => ?_) (fun (h87 : (sg_g σ10 118 (((sg_g σ10 88 42) - 1))) = (sg_g σ 98 ((sg_g σ10 117 (((sg_g σ10 88 42) - 1)))))) => ?_)
              ·
                have w := w.1 h87
                exact wk_ls [(0, .inr (.inr (.ref 88))), (2, .inl ((sg_g σ10 117 (((sg_g σ10 88 42) - 1))))), (3, .inl ((sg_g σ10 118 (((sg_g σ10 88 42) - 1)))))] rfl ⟨rfl, rfl, rfl, trivial⟩ (jn35 σ31 (sg_F_r [113, 114, 115, 116, 30088, 31088, 38088] σ31) w)
              ·
                have w := w.2 h87
                refine wk_b tt_289 2 (pc' := 112) (ls' := [(0, .inr (.inr (.ref 88))), (2, .inl ((sg_g σ10 117 (((sg_g σ10 88 42) - 1))))), (3, .inl ((sg_g σ10 118 (((sg_g σ10 88 42) - 1)))))]) (st' := [.inl ((sg_g σ10 117 (((sg_g σ10 88 42) - 1)))), .inr (.inr (.ref 88))]) (σ' := σ31) rfl ?_
                refine wk_call tt_289 rfl rfl rfl rfl rfl tt_288 rfl (by decide) (w_lookGens z σ31 ((sg_g σ10 117 (((sg_g σ10 88 42) - 1)))) _ (sg_Rg _ _ _) w) (fun u93 σ89 hq91 => ?_)
                obtain ⟨rfl, hF90, w⟩ := hq91
                have w := w hF90
                exact wk_ls [(0, .inr (.inr (.ref 88))), (2, .inl ((sg_g σ10 117 (((sg_g σ10 88 42) - 1))))), (3, .inl ((sg_g σ10 118 (((sg_g σ10 88 42) - 1)))))] rfl ⟨rfl, rfl, rfl, trivial⟩ (jn35 σ89 (sg_F_t (sg_F_r [113, 114, 115, 116, 30088, 31088, 38088] σ31) (sg_F_m (L := [113, 114, 115, 116, 30088, 31088, 38088]) hF90 rfl)) w)
          refine wk_if2 tt_289 (tgt := 89) rfl rfl (sg_Rg _ _ _) (by decide) (fun (h28 : ¬ (sg_g σ 93 ((sg_g σ10 117 (((sg_g σ10 88 42) - 1))))) = 2) => ?_) (fun (h28 : (sg_g σ 93 ((sg_g σ10 117 (((sg_g σ10 88 42) - 1))))) = 2) => ?_)
          ·
            have w := w.1 h28
            exact wk_ls [(0, .inr (.inr (.ref 88))), (2, .inl ((sg_g σ10 117 (((sg_g σ10 88 42) - 1))))), (3, .inl ((sg_g σ10 118 (((sg_g σ10 88 42) - 1)))))] rfl ⟨rfl, rfl, rfl, trivial⟩ (jn29 σ10 (sg_F_r [113, 114, 115, 116, 38088] σ10) w)
          ·
            have w := w.2 h28
            refine wk_b tt_289 2 (pc' := 69) (ls' := [(3, .inl ((sg_g σ10 118 (((sg_g σ10 88 42) - 1))))), (2, .inl ((sg_g σ10 117 (((sg_g σ10 88 42) - 1))))), (0, .inr (.inr (.ref 88)))]) (st' := [.inl (1), .inl ((sg_g σ10 118 (((sg_g σ10 88 42) - 1))))]) (σ' := σ10) rfl ?_
            refine wk_if2 tt_289 (tgt := 89) rfl rfl (sg_Rg _ _ _) (by decide) (fun (h94 : ¬ (sg_g σ10 118 (((sg_g σ10 88 42) - 1))) = 1) => ?_) (fun (h94 : (sg_g σ10 118 (((sg_g σ10 88 42) - 1))) = 1) => ?_)
            ·
              have w := w.1 h94
              exact wk_ls [(0, .inr (.inr (.ref 88))), (2, .inl ((sg_g σ10 117 (((sg_g σ10 88 42) - 1))))), (3, .inl ((sg_g σ10 118 (((sg_g σ10 88 42) - 1)))))] rfl ⟨rfl, rfl, rfl, trivial⟩ (jn29 σ10 (sg_F_r [113, 114, 115, 116, 38088] σ10) w)
            ·
              have w := w.2 h94
              refine wk_b tt_289 4 (pc' := 78) (ls' := [(3, .inl ((sg_g σ10 118 (((sg_g σ10 88 42) - 1))))), (2, .inl ((sg_g σ10 117 (((sg_g σ10 88 42) - 1))))), (0, .inr (.inr (.ref 88)))]) (st' := [.inl ((sg_g σ10 117 (((sg_g σ10 88 42) - 1)))), .inr (.inr (.ref 95)), .inr (.inr (.ref 88))]) (σ' := σ10) rfl ?_
              refine wk_la tt_289 rfl rfl c27.1 c27.2 (sg_Rg _ _ _) ?_
              rw [show (sg_gl σ10 95 ((sg_g σ10 117 (((sg_g σ10 88 42) - 1))))) = (sg_gl σ 95 ((sg_g σ10 117 (((sg_g σ10 88 42) - 1))))) from by rw [sg_F_gal hF11 rfl, sg_F_gal hF9 rfl, sg_F_gal hF6 rfl, sg_F_gal hF3 rfl]]
              refine wk_b tt_289 4 (pc' := 83) (ls' := [(3, .inl ((sg_g σ10 118 (((sg_g σ10 88 42) - 1))))), (2, .inl ((sg_g σ10 117 (((sg_g σ10 88 42) - 1))))), (0, .inr (.inr (.ref 88)))]) (st' := [.inl (0), .inl ((sg_g σ10 117 (((sg_g σ10 88 42) - 1)))), .inr (.inr (.ref 88)), .inl ((sg_g σ10 117 (((sg_g σ10 88 42) - 1)))), .inr (.inl ((sg_gl σ 95 ((sg_g σ10 117 (((sg_g σ10 88 42) - 1))))))), .inr (.inr (.ref 88))]) (σ' := σ10) rfl ?_
              obtain ⟨c95, w⟩ := w
              refine wk_callp tt_289 rfl rfl rfl rfl rfl tt_273 rfl (by decide) (w_kidType z σ10 ((sg_g σ10 117 (((sg_g σ10 88 42) - 1)))) (0) (sg_Rg _ _ _) (by decide) c95) ?_
              have r96 := vr_kidType σ10  ((sg_g σ10 117 (((sg_g σ10 88 42) - 1)))) (0) (sg_Rg _ _ _) (by decide) c95
              refine wk_call tt_289 rfl rfl rfl rfl rfl tt_274 rfl (by decide) (w_know z σ10 ((sg_gl σ 95 ((sg_g σ10 117 (((sg_g σ10 88 42) - 1)))))) ((sg_g σ10 117 (((sg_g σ10 88 42) - 1)))) ((v_kidType σ10 ((sg_g σ10 117 (((sg_g σ10 88 42) - 1)))) (0))) _ (sg_Rgl _ _ _) (sg_Rg _ _ _) r96 w) (fun u102 σ98 hq100 => ?_)
              obtain ⟨rfl, hF99, w⟩ := hq100
              have w := w hF99
              exact wk_ls [(0, .inr (.inr (.ref 88))), (2, .inl ((sg_g σ10 117 (((sg_g σ10 88 42) - 1))))), (3, .inl ((sg_g σ10 118 (((sg_g σ10 88 42) - 1)))))] rfl ⟨rfl, rfl, rfl, trivial⟩ (jn29 σ98 (sg_F_t (sg_F_r [113, 114, 115, 116, 38088] σ10) (sg_F_m (L := [113, 114, 115, 116, 38088]) hF99 rfl)) w)
  exact wk_ls [(0, .inr (.inr (.ref 88)))] rfl ⟨rfl, trivial⟩ (lp17 μ13  σ7  (sg_F_r _ _) w18)
