/-! Conditions of the reference's methods, by program (35). -/
-- NestedVectorsModel.lookAt
def V_lookAt_13 (σ : sg_S) (b1 : Int) (Q : sg_S → Prop) : Prop := V_lookCall σ (b1) (fun σ2 => sg_F [101, 102, 30088, 31088] σ σ2 → Q σ2)
set_option maxHeartbeats 4000000 in
set_option maxRecDepth 8000 in
theorem w_lookAt_13 (z : Value) (σ : sg_S) (b1 : Int) (Q : sg_S → Prop) (rb1 : sg_R b1) (w : V_lookAt_13 σ b1 Q) : wx z 3 285 274 [(0, .inr (.inr (.ref 88))), (1, .inl (b1))] [] σ (fun v σ' => v = none ∧ sg_F [101, 102, 30088, 31088] σ σ' ∧ Q σ') := by
  unfold V_lookAt_13 at w
  refine wk_b tt_285 2 (pc' := 276) (ls' := [(0, .inr (.inr (.ref 88))), (1, .inl (b1))]) (st' := [.inl (b1), .inr (.inr (.ref 88))]) (σ' := σ) rfl ?_
  refine wk_call tt_285 rfl rfl rfl rfl rfl tt_286 rfl (by decide) (w_lookCall z σ (b1) _ rb1 w) (fun u6 σ2 hq4 => ?_)
  obtain ⟨rfl, hF3, w⟩ := hq4
  have w := w hF3
  refine wk_b tt_285 1 (pc' := 419) (ls' := [(0, .inr (.inr (.ref 88))), (1, .inl (b1))]) (st' := []) (σ' := σ2) rfl ?_
  exact wk_rV tt_285 rfl rfl ⟨rfl, (sg_F_t (sg_F_r [101, 102, 30088, 31088] σ) (sg_F_m (L := [101, 102, 30088, 31088]) hF3 rfl)), w⟩
-- NestedVectorsModel.lookAt
def V_lookAt_14 (σ : sg_S) (b1 : Int) (b2 : Int) (Q : sg_S → Prop) : Prop := (∃ (I5 : Nat → Int → Int → Prop) (X7 : Int → Prop), (∃ n, I5 n (1) (1)) ∧ (∀ (n16 : Nat) (v1 : Int) (v2 : Int), sg_R v1 → sg_R v2 → I5 n16 v1 v2 → (0 ≤ b1 ∧ b1 < 210) ∧ (((sg_g σ 96 (b1)) ≤ v2 → X7 (v1)) ∧ (v2 < (sg_g σ 96 (b1)) → ((v1 = 0 → True) ∧ (¬ v1 = 0 → p_kidType σ (b1) (v2) ∧ ((¬ (v_kidType σ (b1) (v2)) = b2 → True) ∧ ((v_kidType σ (b1) (v2)) = b2 → True)))) ∧ ∀ v29 : Int, v29 = (if v1 = 0 then (0 : Int) else (if ¬ (v_kidType σ (b1) (v2)) = b2 then (0 : Int) else (1 : Int))) → sg_R v29 → sg_R (v2 + 1) ∧ (∃ m, m < n16 ∧ I5 m (v29) ((v2 + 1)))))) ∧ (∀ (v1 : Int), sg_R v1 → X7 v1 → sg_R (b2 + 1) ∧ V_typed σ (b1) (v1) ((b2 + 1)) (fun σ20 => sg_F [101, 30088, 31088] σ σ20 → Q σ20)))
set_option maxHeartbeats 4000000 in
set_option maxRecDepth 8000 in
theorem w_lookAt_14 (z : Value) (σ : sg_S) (b1 : Int) (b2 : Int) (Q : sg_S → Prop) (rb1 : sg_R b1) (rb2 : sg_R b2) (w : V_lookAt_14 σ b1 b2 Q) : wx z 2 285 282 [(0, .inr (.inr (.ref 88))), (1, .inl (b1)), (2, .inl (b2))] [] σ (fun v σ' => v = none ∧ sg_F [101, 30088, 31088] σ σ' ∧ Q σ') := by
  unfold V_lookAt_14 at w
  refine wk_b tt_285 4 (pc' := 288) (ls' := [(6, .inl (1)), (5, .inl (1)), (0, .inr (.inr (.ref 88))), (1, .inl (b1)), (2, .inl (b2))]) (st' := []) (σ' := σ) rfl ?_
  obtain ⟨I5, X7, ⟨μ6, w13⟩, w14, w15⟩ := w
  have ex17 : ∀ (v1 : Int), sg_R v1 → X7 v1 → wx z 2 285 328 [(0, .inr (.inr (.ref 88))), (1, .inl (b1)), (2, .inl (b2)), (5, .inl (v1))] [] σ (fun v σ' => v = none ∧ sg_F [101, 30088, 31088] σ σ' ∧ Q σ') := by
    intro v1 r8 w
    have w := w15 v1 r8 w
    obtain ⟨c18, w⟩ := w
    refine wk_b tt_285 6 (pc' := 335) (ls' := [(0, .inr (.inr (.ref 88))), (1, .inl (b1)), (2, .inl (b2)), (5, .inl (v1))]) (st' := [.inl ((b2 + 1)), .inl (v1), .inl (b1), .inr (.inr (.ref 88))]) (σ' := σ) rfl ?_
    refine wk_call tt_285 rfl rfl rfl rfl rfl tt_333 rfl (by decide) (w_typed z σ (b1) (v1) ((b2 + 1)) _ rb1 r8 c18 w) (fun u24 σ20 hq22 => ?_)
    obtain ⟨rfl, hF21, w⟩ := hq22
    have w := w hF21
    refine wk_b tt_285 1 (pc' := 419) (ls' := [(0, .inr (.inr (.ref 88))), (1, .inl (b1)), (2, .inl (b2)), (5, .inl (v1))]) (st' := []) (σ' := σ20) rfl ?_
    exact wk_rV tt_285 rfl rfl ⟨rfl, (sg_F_t (sg_F_r [101, 30088, 31088] σ) (sg_F_m (L := [101, 30088, 31088]) hF21 rfl)), w⟩
  have lp12 : ∀ (n16 : Nat) (v1 : Int) (v2 : Int), sg_R v1 → sg_R v2 → I5 n16 v1 v2 → wx z 2 285 288 [(0, .inr (.inr (.ref 88))), (1, .inl (b1)), (2, .inl (b2)), (5, .inl (v1)), (6, .inl (v2))] [] σ (fun v σ' => v = none ∧ sg_F [101, 30088, 31088] σ σ' ∧ Q σ') := by
    intro n16
    induction n16 using Nat.strongRecOn with
    | _ n16 ih10 =>
      intro v1 v2 r8 r9 w
      have w := w14 n16 v1 v2 r8 r9 w
      refine wk_b tt_285 4 (pc' := 295) (ls' := [(0, .inr (.inr (.ref 88))), (1, .inl (b1)), (2, .inl (b2)), (5, .inl (v1)), (6, .inl (v2))]) (st' := [.inl (b1), .inr (.inr (.ref 96)), .inl (v2)]) (σ' := σ) rfl ?_
      obtain ⟨c25, w⟩ := w
      refine wk_ia tt_285 rfl rfl c25.1 c25.2 rb1 ?_
      refine wk_if2 tt_285 (tgt := 328) rfl rfl r9 (sg_Rg _ _ _) (fun (h26 : (sg_g σ 96 (b1)) ≤ v2) => ?_) (fun (h26 : v2 < (sg_g σ 96 (b1))) => ?_)
      ·
        have w := w.1 h26
        exact wk_ls [(0, .inr (.inr (.ref 88))), (1, .inl (b1)), (2, .inl (b2)), (5, .inl (v1))] rfl ⟨rfl, rfl, rfl, rfl, trivial⟩ (ex17 (v1)  r8  w)
      ·
        have w := w.2 h26
        refine wk_b tt_285 1 (pc' := 301) (ls' := [(0, .inr (.inr (.ref 88))), (1, .inl (b1)), (2, .inl (b2)), (5, .inl (v1)), (6, .inl (v2))]) (st' := [.inl (v1)]) (σ' := σ) rfl ?_
        obtain ⟨wp, w⟩ := w
        have jn28 : ∀ v29 : Int, v29 = (if v1 = 0 then (0 : Int) else (if ¬ (v_kidType σ (b1) (v2)) = b2 then (0 : Int) else (1 : Int))) → sg_R v29 → wx z 2 285 320 [(0, .inr (.inr (.ref 88))), (1, .inl (b1)), (2, .inl (b2)), (6, .inl (v2))] [.inl (v29)] σ (fun v σ' => v = none ∧ sg_F [101, 30088, 31088] σ σ' ∧ Q σ') := by
          intro v29 e31 r30
          have w := w v29 e31 r30
          obtain ⟨c32, w⟩ := w
          refine wk_b tt_285 3 (pc' := 288) (ls' := [(6, .inl ((v2 + 1))), (5, .inl (v29)), (0, .inr (.inr (.ref 88))), (1, .inl (b1)), (2, .inl (b2))]) (st' := []) (σ' := σ) rfl ?_
          obtain ⟨m33, hm33, w⟩ := w
          exact wk_ls [(0, .inr (.inr (.ref 88))), (1, .inl (b1)), (2, .inl (b2)), (5, .inl (v29)), (6, .inl ((v2 + 1)))] rfl ⟨rfl, rfl, rfl, rfl, rfl, trivial⟩ (ih10 m33 hm33 (v29) ((v2 + 1))  r30 c32  w)
        have w := wp
        refine wk_if tt_285 (tgt := 319) rfl rfl r8 (fun (h27 : v1 = 0) => ?_) (fun (h27 : ¬ v1 = 0) => ?_)
        ·
          have w := w.1 h27
          refine wk_b tt_285 1 (pc' := 320) (ls' := [(0, .inr (.inr (.ref 88))), (1, .inl (b1)), (2, .inl (b2)), (5, .inl (v1)), (6, .inl (v2))]) (st' := [.inl (0)]) (σ' := σ) rfl ?_
          exact wk_ls [(0, .inr (.inr (.ref 88))), (1, .inl (b1)), (2, .inl (b2)), (6, .inl (v2))] rfl ⟨rfl, rfl, rfl, rfl, trivial⟩ (jn28 (0) (by simp only [if_pos h27]) (by decide))
        ·
          have w := w.2 h27
          refine wk_b tt_285 3 (pc' := 308) (ls' := [(0, .inr (.inr (.ref 88))), (1, .inl (b1)), (2, .inl (b2)), (5, .inl (v1)), (6, .inl (v2))]) (st' := [.inl (v2), .inl (b1), .inr (.inr (.ref 88))]) (σ' := σ) rfl ?_
          obtain ⟨c34, w⟩ := w
          refine wk_callp tt_285 rfl rfl rfl rfl rfl tt_273 rfl (by decide) (w_kidType z σ (b1) (v2) rb1 r9 c34) ?_
          have r35 := vr_kidType σ  (b1) (v2) rb1 r9 c34
          refine wk_b tt_285 1 (pc' := 312) (ls' := [(0, .inr (.inr (.ref 88))), (1, .inl (b1)), (2, .inl (b2)), (5, .inl (v1)), (6, .inl (v2))]) (st' := [.inl (b2), .inl ((v_kidType σ (b1) (v2)))]) (σ' := σ) rfl ?_
          refine wk_if2 tt_285 (tgt := 319) rfl rfl r35 rb2 (fun (h36 : ¬ (v_kidType σ (b1) (v2)) = b2) => ?_) (fun (h36 : (v_kidType σ (b1) (v2)) = b2) => ?_)
          ·
            have w := w.1 h36
            refine wk_b tt_285 1 (pc' := 320) (ls' := [(0, .inr (.inr (.ref 88))), (1, .inl (b1)), (2, .inl (b2)), (5, .inl (v1)), (6, .inl (v2))]) (st' := [.inl (0)]) (σ' := σ) rfl ?_
            exact wk_ls [(0, .inr (.inr (.ref 88))), (1, .inl (b1)), (2, .inl (b2)), (6, .inl (v2))] rfl ⟨rfl, rfl, rfl, rfl, trivial⟩ (jn28 (0) (by simp only [if_neg (show ¬ (v1 = 0) by omega), if_pos h36]) (by decide))
          ·
            have w := w.2 h36
            refine wk_b tt_285 2 (pc' := 320) (ls' := [(0, .inr (.inr (.ref 88))), (1, .inl (b1)), (2, .inl (b2)), (5, .inl (v1)), (6, .inl (v2))]) (st' := [.inl (1)]) (σ' := σ) rfl ?_
            exact wk_ls [(0, .inr (.inr (.ref 88))), (1, .inl (b1)), (2, .inl (b2)), (6, .inl (v2))] rfl ⟨rfl, rfl, rfl, rfl, trivial⟩ (jn28 (1) (by simp only [if_neg (show ¬ (v1 = 0) by omega), if_neg (show ¬ (¬ (v_kidType σ (b1) (v2)) = b2) by omega)]) (by decide))
  exact wk_ls [(0, .inr (.inr (.ref 88))), (1, .inl (b1)), (2, .inl (b2)), (5, .inl (1)), (6, .inl (1))] rfl ⟨rfl, rfl, rfl, rfl, rfl, trivial⟩ (lp12 μ6 (1) (1)  (by decide) (by decide)  w13)
-- NestedVectorsModel.lookAt
def V_lookAt_15 (σ : sg_S) (b1 : Int) (b2 : Int) (Q : sg_S → Prop) : Prop := p_hasTest σ (b1) ∧ (((v_hasTest σ (b1)) = 0 → True) ∧ (¬ (v_hasTest σ (b1)) = 0 → (0 ≤ b1 ∧ b1 < 210) ∧ sg_R ((sg_g σ 96 (b1)) - 1) ∧ p_kidType σ (b1) (((sg_g σ 96 (b1)) - 1)) ∧ ((¬ (v_kidType σ (b1) (((sg_g σ 96 (b1)) - 1))) = 0 → True) ∧ ((v_kidType σ (b1) (((sg_g σ 96 (b1)) - 1))) = 0 → True)))) ∧ ∀ v4 : Int, v4 = (if (v_hasTest σ (b1)) = 0 then (1 : Int) else (if ¬ (v_kidType σ (b1) (((sg_g σ 96 (b1)) - 1))) = 0 then (0 : Int) else (1 : Int))) → sg_R v4 → sg_R (b2 + 1) ∧ V_typed σ (b1) (v4) ((b2 + 1)) (fun σ9 => sg_F [101, 30088, 31088] σ σ9 → Q σ9)
set_option maxHeartbeats 4000000 in
set_option maxRecDepth 8000 in
theorem w_lookAt_15 (z : Value) (σ : sg_S) (b1 : Int) (b2 : Int) (Q : sg_S → Prop) (rb1 : sg_R b1) (rb2 : sg_R b2) (w : V_lookAt_15 σ b1 b2 Q) : wx z 2 285 341 [(0, .inr (.inr (.ref 88))), (1, .inl (b1)), (2, .inl (b2))] [] σ (fun v σ' => v = none ∧ sg_F [101, 30088, 31088] σ σ' ∧ Q σ') := by
  unfold V_lookAt_15 at w
  refine wk_b tt_285 4 (pc' := 345) (ls' := [(0, .inr (.inr (.ref 88))), (1, .inl (b1)), (2, .inl (b2))]) (st' := [.inl (b1), .inr (.inr (.ref 88)), .inl (b1), .inr (.inr (.ref 88))]) (σ' := σ) rfl ?_
  obtain ⟨c1, w⟩ := w
  refine wk_callp tt_285 rfl rfl rfl rfl rfl tt_257 rfl (by decide) (w_hasTest z σ (b1) rb1 c1) ?_
  obtain ⟨wp, w⟩ := w
  have jn3 : ∀ v4 : Int, v4 = (if (v_hasTest σ (b1)) = 0 then (1 : Int) else (if ¬ (v_kidType σ (b1) (((sg_g σ 96 (b1)) - 1))) = 0 then (0 : Int) else (1 : Int))) → sg_R v4 → wx z 2 285 372 [(2, .inl (b2))] [.inl (v4), .inl (b1), .inr (.inr (.ref 88))] σ (fun v σ' => v = none ∧ sg_F [101, 30088, 31088] σ σ' ∧ Q σ') := by
    intro v4 e6 r5
    have w := w v4 e6 r5
    obtain ⟨c7, w⟩ := w
    refine wk_b tt_285 3 (pc' := 375) (ls' := [(2, .inl (b2))]) (st' := [.inl ((b2 + 1)), .inl (v4), .inl (b1), .inr (.inr (.ref 88))]) (σ' := σ) rfl ?_
    refine wk_call tt_285 rfl rfl rfl rfl rfl tt_333 rfl (by decide) (w_typed z σ (b1) (v4) ((b2 + 1)) _ rb1 r5 c7 w) (fun u13 σ9 hq11 => ?_)
    obtain ⟨rfl, hF10, w⟩ := hq11
    have w := w hF10
    refine wk_b tt_285 1 (pc' := 419) (ls' := [(2, .inl (b2))]) (st' := []) (σ' := σ9) rfl ?_
    exact wk_rV tt_285 rfl rfl ⟨rfl, (sg_F_t (sg_F_r [101, 30088, 31088] σ) (sg_F_m (L := [101, 30088, 31088]) hF10 rfl)), w⟩
  have w := wp
  refine wk_if tt_285 (tgt := 367) rfl rfl (sg_Rz (vz_hasTest ..)) (fun (h2 : (v_hasTest σ (b1)) = 0) => ?_) (fun (h2 : ¬ (v_hasTest σ (b1)) = 0) => ?_)
  ·
    have w := w.1 h2
    refine wk_b tt_285 2 (pc' := 372) (ls' := [(0, .inr (.inr (.ref 88))), (1, .inl (b1)), (2, .inl (b2))]) (st' := [.inl (1), .inl (b1), .inr (.inr (.ref 88))]) (σ' := σ) rfl ?_
    exact wk_ls [(2, .inl (b2))] rfl ⟨rfl, trivial⟩ (jn3 (1) (by simp only [if_pos h2]) (by decide))
  ·
    have w := w.2 h2
    refine wk_b tt_285 5 (pc' := 358) (ls' := [(0, .inr (.inr (.ref 88))), (1, .inl (b1)), (2, .inl (b2))]) (st' := [.inl (b1), .inr (.inr (.ref 96)), .inl (b1), .inr (.inr (.ref 88)), .inl (b1), .inr (.inr (.ref 88))]) (σ' := σ) rfl ?_
    obtain ⟨c14, w⟩ := w
    refine wk_ia tt_285 rfl rfl c14.1 c14.2 rb1 ?_
    obtain ⟨c15, w⟩ := w
    refine wk_b tt_285 2 (pc' := 361) (ls' := [(0, .inr (.inr (.ref 88))), (1, .inl (b1)), (2, .inl (b2))]) (st' := [.inl (((sg_g σ 96 (b1)) - 1)), .inl (b1), .inr (.inr (.ref 88)), .inl (b1), .inr (.inr (.ref 88))]) (σ' := σ) rfl ?_
    obtain ⟨c16, w⟩ := w
    refine wk_callp tt_285 rfl rfl rfl rfl rfl tt_273 rfl (by decide) (w_kidType z σ (b1) (((sg_g σ 96 (b1)) - 1)) rb1 c15 c16) ?_
    have r17 := vr_kidType σ  (b1) (((sg_g σ 96 (b1)) - 1)) rb1 c15 c16
    refine wk_if tt_285 (tgt := 371) rfl rfl r17 (fun (h18 : ¬ (v_kidType σ (b1) (((sg_g σ 96 (b1)) - 1))) = 0) => ?_) (fun (h18 : (v_kidType σ (b1) (((sg_g σ 96 (b1)) - 1))) = 0) => ?_)
    ·
      have w := w.1 h18
      refine wk_b tt_285 1 (pc' := 372) (ls' := [(0, .inr (.inr (.ref 88))), (1, .inl (b1)), (2, .inl (b2))]) (st' := [.inl (0), .inl (b1), .inr (.inr (.ref 88))]) (σ' := σ) rfl ?_
      exact wk_ls [(2, .inl (b2))] rfl ⟨rfl, trivial⟩ (jn3 (0) (by simp only [if_neg (show ¬ ((v_hasTest σ (b1)) = 0) by omega), if_pos h18]) (by decide))
    ·
      have w := w.2 h18
      refine wk_b tt_285 2 (pc' := 372) (ls' := [(0, .inr (.inr (.ref 88))), (1, .inl (b1)), (2, .inl (b2))]) (st' := [.inl (1), .inl (b1), .inr (.inr (.ref 88))]) (σ' := σ) rfl ?_
      exact wk_ls [(2, .inl (b2))] rfl ⟨rfl, trivial⟩ (jn3 (1) (by simp only [if_neg (show ¬ ((v_hasTest σ (b1)) = 0) by omega), if_neg (show ¬ (¬ (v_kidType σ (b1) (((sg_g σ 96 (b1)) - 1))) = 0) by omega)]) (by decide))
-- NestedVectorsModel.lookAct
def V_lookAct_16 (σ : sg_S) (b1 : Int) (b2 : Int) (Q : sg_S → Prop) : Prop := p_has σ (b1) (1) ∧ ∀ v4 : Int, v4 = (if (v_has σ (b1) (1)) = 0 then (0 : Int) else (if ¬ b2 = 0 then (0 : Int) else (1 : Int))) → sg_R v4 → V_typed σ (b1) (v4) (1) (fun σ8 => sg_F [101, 30088, 31088] σ σ8 → Q σ8)
set_option maxHeartbeats 4000000 in
set_option maxRecDepth 8000 in
theorem w_lookAct_16 (z : Value) (σ : sg_S) (b1 : Int) (b2 : Int) (Q : sg_S → Prop) (rb1 : sg_R b1) (rb2 : sg_R b2) (w : V_lookAct_16 σ b1 b2 Q) : wx z 2 284 104 [(0, .inr (.inr (.ref 88))), (1, .inl (b1)), (2, .inl (b2))] [] σ (fun v σ' => v = none ∧ sg_F [101, 30088, 31088] σ σ' ∧ Q σ') := by
  unfold V_lookAct_16 at w
  refine wk_b tt_284 5 (pc' := 109) (ls' := [(0, .inr (.inr (.ref 88))), (1, .inl (b1)), (2, .inl (b2))]) (st' := [.inl (1), .inl (b1), .inr (.inr (.ref 88)), .inl (b1), .inr (.inr (.ref 88))]) (σ' := σ) rfl ?_
  obtain ⟨c1, w⟩ := w
  refine wk_callp tt_284 rfl rfl rfl rfl rfl tt_255 rfl (by decide) (w_has z σ (b1) (1) rb1 (by decide) c1) ?_
  have jn3 : ∀ v4 : Int, v4 = (if (v_has σ (b1) (1)) = 0 then (0 : Int) else (if ¬ b2 = 0 then (0 : Int) else (1 : Int))) → sg_R v4 → wx z 2 284 124 [] [.inl (v4), .inl (b1), .inr (.inr (.ref 88))] σ (fun v σ' => v = none ∧ sg_F [101, 30088, 31088] σ σ' ∧ Q σ') := by
    intro v4 e6 r5
    have w := w v4 e6 r5
    refine wk_b tt_284 1 (pc' := 125) (ls' := []) (st' := [.inl (1), .inl (v4), .inl (b1), .inr (.inr (.ref 88))]) (σ' := σ) rfl ?_
    refine wk_call tt_284 rfl rfl rfl rfl rfl tt_333 rfl (by decide) (w_typed z σ (b1) (v4) (1) _ rb1 r5 (by decide) w) (fun u12 σ8 hq10 => ?_)
    obtain ⟨rfl, hF9, w⟩ := hq10
    have w := w hF9
    refine wk_b tt_284 1 (pc' := 368) (ls' := []) (st' := []) (σ' := σ8) rfl ?_
    exact wk_rV tt_284 rfl rfl ⟨rfl, (sg_F_t (sg_F_r [101, 30088, 31088] σ) (sg_F_m (L := [101, 30088, 31088]) hF9 rfl)), w⟩
  refine wk_if tt_284 (tgt := 123) rfl rfl (sg_Rz (vz_has ..)) (fun (h2 : (v_has σ (b1) (1)) = 0) => ?_) (fun (h2 : ¬ (v_has σ (b1) (1)) = 0) => ?_)
  ·
    clear w
    refine wk_b tt_284 1 (pc' := 124) (ls' := [(0, .inr (.inr (.ref 88))), (1, .inl (b1)), (2, .inl (b2))]) (st' := [.inl (0), .inl (b1), .inr (.inr (.ref 88))]) (σ' := σ) rfl ?_
    exact wk_ls [] rfl trivial (jn3 (0) (by simp only [if_pos h2]) (by decide))
  ·
    clear w
    refine wk_b tt_284 1 (pc' := 116) (ls' := [(0, .inr (.inr (.ref 88))), (1, .inl (b1)), (2, .inl (b2))]) (st' := [.inl (b2), .inl (b1), .inr (.inr (.ref 88))]) (σ' := σ) rfl ?_
    refine wk_if tt_284 (tgt := 123) rfl rfl rb2 (fun (h13 : ¬ b2 = 0) => ?_) (fun (h13 : b2 = 0) => ?_)
    ·
      refine wk_b tt_284 1 (pc' := 124) (ls' := [(0, .inr (.inr (.ref 88))), (1, .inl (b1)), (2, .inl (b2))]) (st' := [.inl (0), .inl (b1), .inr (.inr (.ref 88))]) (σ' := σ) rfl ?_
      exact wk_ls [] rfl trivial (jn3 (0) (by simp only [if_neg (show ¬ ((v_has σ (b1) (1)) = 0) by omega), if_pos h13]) (by decide))
    ·
      refine wk_b tt_284 2 (pc' := 124) (ls' := [(0, .inr (.inr (.ref 88))), (1, .inl (b1)), (2, .inl (b2))]) (st' := [.inl (1), .inl (b1), .inr (.inr (.ref 88))]) (σ' := σ) rfl ?_
      exact wk_ls [] rfl trivial (jn3 (1) (by simp only [if_neg (show ¬ ((v_has σ (b1) (1)) = 0) by omega), if_neg (show ¬ (¬ b2 = 0) by omega)]) (by decide))
-- NestedVectorsModel.lookAct
def V_lookAct_17 (σ : sg_S) (b1 : Int) (b2 : Int) (b3 : Int) (Q : sg_S → Prop) : Prop := p_has σ (b1) (2) ∧ ∀ v4 : Int, v4 = (if (v_has σ (b1) (2)) = 0 then (0 : Int) else (if ¬ b3 = 0 then (0 : Int) else (1 : Int))) → sg_R v4 → sg_R (b2 + 1) ∧ V_typed σ (b1) (v4) ((b2 + 1)) (fun σ9 => sg_F [101, 30088, 31088] σ σ9 → Q σ9)
set_option maxHeartbeats 4000000 in
set_option maxRecDepth 8000 in
theorem w_lookAct_17 (z : Value) (σ : sg_S) (b1 : Int) (b2 : Int) (b3 : Int) (Q : sg_S → Prop) (rb1 : sg_R b1) (rb2 : sg_R b2) (rb3 : sg_R b3) (w : V_lookAct_17 σ b1 b2 b3 Q) : wx z 2 284 131 [(0, .inr (.inr (.ref 88))), (1, .inl (b1)), (2, .inl (b2)), (3, .inl (b3))] [] σ (fun v σ' => v = none ∧ sg_F [101, 30088, 31088] σ σ' ∧ Q σ') := by
  unfold V_lookAct_17 at w
  refine wk_b tt_284 5 (pc' := 136) (ls' := [(0, .inr (.inr (.ref 88))), (1, .inl (b1)), (2, .inl (b2)), (3, .inl (b3))]) (st' := [.inl (2), .inl (b1), .inr (.inr (.ref 88)), .inl (b1), .inr (.inr (.ref 88))]) (σ' := σ) rfl ?_
  obtain ⟨c1, w⟩ := w
  refine wk_callp tt_284 rfl rfl rfl rfl rfl tt_255 rfl (by decide) (w_has z σ (b1) (2) rb1 (by decide) c1) ?_
  have jn3 : ∀ v4 : Int, v4 = (if (v_has σ (b1) (2)) = 0 then (0 : Int) else (if ¬ b3 = 0 then (0 : Int) else (1 : Int))) → sg_R v4 → wx z 2 284 151 [(2, .inl (b2))] [.inl (v4), .inl (b1), .inr (.inr (.ref 88))] σ (fun v σ' => v = none ∧ sg_F [101, 30088, 31088] σ σ' ∧ Q σ') := by
    intro v4 e6 r5
    have w := w v4 e6 r5
    obtain ⟨c7, w⟩ := w
    refine wk_b tt_284 3 (pc' := 154) (ls' := [(2, .inl (b2))]) (st' := [.inl ((b2 + 1)), .inl (v4), .inl (b1), .inr (.inr (.ref 88))]) (σ' := σ) rfl ?_
    refine wk_call tt_284 rfl rfl rfl rfl rfl tt_333 rfl (by decide) (w_typed z σ (b1) (v4) ((b2 + 1)) _ rb1 r5 c7 w) (fun u13 σ9 hq11 => ?_)
    obtain ⟨rfl, hF10, w⟩ := hq11
    have w := w hF10
    refine wk_b tt_284 1 (pc' := 368) (ls' := [(2, .inl (b2))]) (st' := []) (σ' := σ9) rfl ?_
    exact wk_rV tt_284 rfl rfl ⟨rfl, (sg_F_t (sg_F_r [101, 30088, 31088] σ) (sg_F_m (L := [101, 30088, 31088]) hF10 rfl)), w⟩
  refine wk_if tt_284 (tgt := 150) rfl rfl (sg_Rz (vz_has ..)) (fun (h2 : (v_has σ (b1) (2)) = 0) => ?_) (fun (h2 : ¬ (v_has σ (b1) (2)) = 0) => ?_)
  ·
    clear w
    refine wk_b tt_284 1 (pc' := 151) (ls' := [(0, .inr (.inr (.ref 88))), (1, .inl (b1)), (2, .inl (b2)), (3, .inl (b3))]) (st' := [.inl (0), .inl (b1), .inr (.inr (.ref 88))]) (σ' := σ) rfl ?_
    exact wk_ls [(2, .inl (b2))] rfl ⟨rfl, trivial⟩ (jn3 (0) (by simp only [if_pos h2]) (by decide))
  ·
    clear w
    refine wk_b tt_284 1 (pc' := 143) (ls' := [(0, .inr (.inr (.ref 88))), (1, .inl (b1)), (2, .inl (b2)), (3, .inl (b3))]) (st' := [.inl (b3), .inl (b1), .inr (.inr (.ref 88))]) (σ' := σ) rfl ?_
    refine wk_if tt_284 (tgt := 150) rfl rfl rb3 (fun (h14 : ¬ b3 = 0) => ?_) (fun (h14 : b3 = 0) => ?_)
    ·
      refine wk_b tt_284 1 (pc' := 151) (ls' := [(0, .inr (.inr (.ref 88))), (1, .inl (b1)), (2, .inl (b2)), (3, .inl (b3))]) (st' := [.inl (0), .inl (b1), .inr (.inr (.ref 88))]) (σ' := σ) rfl ?_
      exact wk_ls [(2, .inl (b2))] rfl ⟨rfl, trivial⟩ (jn3 (0) (by simp only [if_neg (show ¬ ((v_has σ (b1) (2)) = 0) by omega), if_pos h14]) (by decide))
    ·
      refine wk_b tt_284 2 (pc' := 151) (ls' := [(0, .inr (.inr (.ref 88))), (1, .inl (b1)), (2, .inl (b2)), (3, .inl (b3))]) (st' := [.inl (1), .inl (b1), .inr (.inr (.ref 88))]) (σ' := σ) rfl ?_
      exact wk_ls [(2, .inl (b2))] rfl ⟨rfl, trivial⟩ (jn3 (1) (by simp only [if_neg (show ¬ ((v_has σ (b1) (2)) = 0) by omega), if_neg (show ¬ (¬ b3 = 0) by omega)]) (by decide))
-- NestedVectorsModel.lookAct
def V_lookAct_18 (σ : sg_S) (b1 : Int) (b2 : Int) (Q : sg_S → Prop) : Prop := p_has σ (b1) (1) ∧ ∀ v4 : Int, v4 = (if (v_has σ (b1) (1)) = 0 then (0 : Int) else (if ¬ b2 = 1 then (0 : Int) else (1 : Int))) → sg_R v4 → V_typed σ (b1) (v4) (0) (fun σ8 => sg_F [101, 30088, 31088] σ σ8 → Q σ8)
set_option maxHeartbeats 4000000 in
set_option maxRecDepth 8000 in
theorem w_lookAct_18 (z : Value) (σ : sg_S) (b1 : Int) (b2 : Int) (Q : sg_S → Prop) (rb1 : sg_R b1) (rb2 : sg_R b2) (w : V_lookAct_18 σ b1 b2 Q) : wx z 2 284 160 [(0, .inr (.inr (.ref 88))), (1, .inl (b1)), (2, .inl (b2))] [] σ (fun v σ' => v = none ∧ sg_F [101, 30088, 31088] σ σ' ∧ Q σ') := by
  unfold V_lookAct_18 at w
  refine wk_b tt_284 5 (pc' := 165) (ls' := [(0, .inr (.inr (.ref 88))), (1, .inl (b1)), (2, .inl (b2))]) (st' := [.inl (1), .inl (b1), .inr (.inr (.ref 88)), .inl (b1), .inr (.inr (.ref 88))]) (σ' := σ) rfl ?_
  obtain ⟨c1, w⟩ := w
  refine wk_callp tt_284 rfl rfl rfl rfl rfl tt_255 rfl (by decide) (w_has z σ (b1) (1) rb1 (by decide) c1) ?_
  have jn3 : ∀ v4 : Int, v4 = (if (v_has σ (b1) (1)) = 0 then (0 : Int) else (if ¬ b2 = 1 then (0 : Int) else (1 : Int))) → sg_R v4 → wx z 2 284 181 [] [.inl (v4), .inl (b1), .inr (.inr (.ref 88))] σ (fun v σ' => v = none ∧ sg_F [101, 30088, 31088] σ σ' ∧ Q σ') := by
    intro v4 e6 r5
    have w := w v4 e6 r5
    refine wk_b tt_284 1 (pc' := 182) (ls' := []) (st' := [.inl (0), .inl (v4), .inl (b1), .inr (.inr (.ref 88))]) (σ' := σ) rfl ?_
    refine wk_call tt_284 rfl rfl rfl rfl rfl tt_333 rfl (by decide) (w_typed z σ (b1) (v4) (0) _ rb1 r5 (by decide) w) (fun u12 σ8 hq10 => ?_)
    obtain ⟨rfl, hF9, w⟩ := hq10
    have w := w hF9
    refine wk_b tt_284 1 (pc' := 368) (ls' := []) (st' := []) (σ' := σ8) rfl ?_
    exact wk_rV tt_284 rfl rfl ⟨rfl, (sg_F_t (sg_F_r [101, 30088, 31088] σ) (sg_F_m (L := [101, 30088, 31088]) hF9 rfl)), w⟩
  refine wk_if tt_284 (tgt := 180) rfl rfl (sg_Rz (vz_has ..)) (fun (h2 : (v_has σ (b1) (1)) = 0) => ?_) (fun (h2 : ¬ (v_has σ (b1) (1)) = 0) => ?_)
  ·
    clear w
    refine wk_b tt_284 1 (pc' := 181) (ls' := [(0, .inr (.inr (.ref 88))), (1, .inl (b1)), (2, .inl (b2))]) (st' := [.inl (0), .inl (b1), .inr (.inr (.ref 88))]) (σ' := σ) rfl ?_
    exact wk_ls [] rfl trivial (jn3 (0) (by simp only [if_pos h2]) (by decide))
  ·
    clear w
    refine wk_b tt_284 2 (pc' := 173) (ls' := [(0, .inr (.inr (.ref 88))), (1, .inl (b1)), (2, .inl (b2))]) (st' := [.inl (1), .inl (b2), .inl (b1), .inr (.inr (.ref 88))]) (σ' := σ) rfl ?_
    refine wk_if2 tt_284 (tgt := 180) rfl rfl rb2 (by decide) (fun (h13 : ¬ b2 = 1) => ?_) (fun (h13 : b2 = 1) => ?_)
    ·
      refine wk_b tt_284 1 (pc' := 181) (ls' := [(0, .inr (.inr (.ref 88))), (1, .inl (b1)), (2, .inl (b2))]) (st' := [.inl (0), .inl (b1), .inr (.inr (.ref 88))]) (σ' := σ) rfl ?_
      exact wk_ls [] rfl trivial (jn3 (0) (by simp only [if_neg (show ¬ ((v_has σ (b1) (1)) = 0) by omega), if_pos h13]) (by decide))
    ·
      refine wk_b tt_284 2 (pc' := 181) (ls' := [(0, .inr (.inr (.ref 88))), (1, .inl (b1)), (2, .inl (b2))]) (st' := [.inl (1), .inl (b1), .inr (.inr (.ref 88))]) (σ' := σ) rfl ?_
      exact wk_ls [] rfl trivial (jn3 (1) (by simp only [if_neg (show ¬ ((v_has σ (b1) (1)) = 0) by omega), if_neg (show ¬ (¬ b2 = 1) by omega)]) (by decide))
-- NestedVectorsModel.lookAct
def V_lookAct_21 (σ : sg_S) (b1 : Int) (b2 : Int) (Q : sg_S → Prop) : Prop := p_has σ (b1) (1) ∧ ∀ v4 : Int, v4 = (if (v_has σ (b1) (1)) = 0 then (0 : Int) else (if ¬ b2 = 1 then (0 : Int) else (1 : Int))) → sg_R v4 → V_typed σ (b1) (v4) (1) (fun σ8 => sg_F [101, 30088, 31088] σ σ8 → Q σ8)
set_option maxHeartbeats 4000000 in
set_option maxRecDepth 8000 in
theorem w_lookAct_21 (z : Value) (σ : sg_S) (b1 : Int) (b2 : Int) (Q : sg_S → Prop) (rb1 : sg_R b1) (rb2 : sg_R b2) (w : V_lookAct_21 σ b1 b2 Q) : wx z 2 284 188 [(0, .inr (.inr (.ref 88))), (1, .inl (b1)), (2, .inl (b2))] [] σ (fun v σ' => v = none ∧ sg_F [101, 30088, 31088] σ σ' ∧ Q σ') := by
  unfold V_lookAct_21 at w
  refine wk_b tt_284 5 (pc' := 193) (ls' := [(0, .inr (.inr (.ref 88))), (1, .inl (b1)), (2, .inl (b2))]) (st' := [.inl (1), .inl (b1), .inr (.inr (.ref 88)), .inl (b1), .inr (.inr (.ref 88))]) (σ' := σ) rfl ?_
  obtain ⟨c1, w⟩ := w
  refine wk_callp tt_284 rfl rfl rfl rfl rfl tt_255 rfl (by decide) (w_has z σ (b1) (1) rb1 (by decide) c1) ?_
  have jn3 : ∀ v4 : Int, v4 = (if (v_has σ (b1) (1)) = 0 then (0 : Int) else (if ¬ b2 = 1 then (0 : Int) else (1 : Int))) → sg_R v4 → wx z 2 284 209 [] [.inl (v4), .inl (b1), .inr (.inr (.ref 88))] σ (fun v σ' => v = none ∧ sg_F [101, 30088, 31088] σ σ' ∧ Q σ') := by
    intro v4 e6 r5
    have w := w v4 e6 r5
    refine wk_b tt_284 1 (pc' := 210) (ls' := []) (st' := [.inl (1), .inl (v4), .inl (b1), .inr (.inr (.ref 88))]) (σ' := σ) rfl ?_
    refine wk_call tt_284 rfl rfl rfl rfl rfl tt_333 rfl (by decide) (w_typed z σ (b1) (v4) (1) _ rb1 r5 (by decide) w) (fun u12 σ8 hq10 => ?_)
    obtain ⟨rfl, hF9, w⟩ := hq10
    have w := w hF9
    refine wk_b tt_284 1 (pc' := 368) (ls' := []) (st' := []) (σ' := σ8) rfl ?_
    exact wk_rV tt_284 rfl rfl ⟨rfl, (sg_F_t (sg_F_r [101, 30088, 31088] σ) (sg_F_m (L := [101, 30088, 31088]) hF9 rfl)), w⟩
  refine wk_if tt_284 (tgt := 208) rfl rfl (sg_Rz (vz_has ..)) (fun (h2 : (v_has σ (b1) (1)) = 0) => ?_) (fun (h2 : ¬ (v_has σ (b1) (1)) = 0) => ?_)
  ·
    clear w
    refine wk_b tt_284 1 (pc' := 209) (ls' := [(0, .inr (.inr (.ref 88))), (1, .inl (b1)), (2, .inl (b2))]) (st' := [.inl (0), .inl (b1), .inr (.inr (.ref 88))]) (σ' := σ) rfl ?_
    exact wk_ls [] rfl trivial (jn3 (0) (by simp only [if_pos h2]) (by decide))
  ·
    clear w
    refine wk_b tt_284 2 (pc' := 201) (ls' := [(0, .inr (.inr (.ref 88))), (1, .inl (b1)), (2, .inl (b2))]) (st' := [.inl (1), .inl (b2), .inl (b1), .inr (.inr (.ref 88))]) (σ' := σ) rfl ?_
    refine wk_if2 tt_284 (tgt := 208) rfl rfl rb2 (by decide) (fun (h13 : ¬ b2 = 1) => ?_) (fun (h13 : b2 = 1) => ?_)
    ·
      refine wk_b tt_284 1 (pc' := 209) (ls' := [(0, .inr (.inr (.ref 88))), (1, .inl (b1)), (2, .inl (b2))]) (st' := [.inl (0), .inl (b1), .inr (.inr (.ref 88))]) (σ' := σ) rfl ?_
      exact wk_ls [] rfl trivial (jn3 (0) (by simp only [if_neg (show ¬ ((v_has σ (b1) (1)) = 0) by omega), if_pos h13]) (by decide))
    ·
      refine wk_b tt_284 2 (pc' := 209) (ls' := [(0, .inr (.inr (.ref 88))), (1, .inl (b1)), (2, .inl (b2))]) (st' := [.inl (1), .inl (b1), .inr (.inr (.ref 88))]) (σ' := σ) rfl ?_
      exact wk_ls [] rfl trivial (jn3 (1) (by simp only [if_neg (show ¬ ((v_has σ (b1) (1)) = 0) by omega), if_neg (show ¬ (¬ b2 = 1) by omega)]) (by decide))
-- NestedVectorsModel.lookAct
def V_lookAct_22 (σ : sg_S) (b1 : Int) (b2 : Int) (Q : sg_S → Prop) : Prop := p_has σ (b1) (1) ∧ ∀ v4 : Int, v4 = (if (v_has σ (b1) (1)) = 0 then (0 : Int) else (if b2 ≤ 0 then (0 : Int) else (1 : Int))) → sg_R v4 → V_typed σ (b1) (v4) (b2) (fun σ8 => sg_F [101, 30088, 31088] σ σ8 → Q σ8)
set_option maxHeartbeats 4000000 in
set_option maxRecDepth 8000 in
theorem w_lookAct_22 (z : Value) (σ : sg_S) (b1 : Int) (b2 : Int) (Q : sg_S → Prop) (rb1 : sg_R b1) (rb2 : sg_R b2) (w : V_lookAct_22 σ b1 b2 Q) : wx z 2 284 216 [(0, .inr (.inr (.ref 88))), (1, .inl (b1)), (2, .inl (b2))] [] σ (fun v σ' => v = none ∧ sg_F [101, 30088, 31088] σ σ' ∧ Q σ') := by
  unfold V_lookAct_22 at w
  refine wk_b tt_284 5 (pc' := 221) (ls' := [(0, .inr (.inr (.ref 88))), (1, .inl (b1)), (2, .inl (b2))]) (st' := [.inl (1), .inl (b1), .inr (.inr (.ref 88)), .inl (b1), .inr (.inr (.ref 88))]) (σ' := σ) rfl ?_
  obtain ⟨c1, w⟩ := w
  refine wk_callp tt_284 rfl rfl rfl rfl rfl tt_255 rfl (by decide) (w_has z σ (b1) (1) rb1 (by decide) c1) ?_
  have jn3 : ∀ v4 : Int, v4 = (if (v_has σ (b1) (1)) = 0 then (0 : Int) else (if b2 ≤ 0 then (0 : Int) else (1 : Int))) → sg_R v4 → wx z 2 284 236 [(2, .inl (b2))] [.inl (v4), .inl (b1), .inr (.inr (.ref 88))] σ (fun v σ' => v = none ∧ sg_F [101, 30088, 31088] σ σ' ∧ Q σ') := by
    intro v4 e6 r5
    have w := w v4 e6 r5
    refine wk_b tt_284 1 (pc' := 237) (ls' := [(2, .inl (b2))]) (st' := [.inl (b2), .inl (v4), .inl (b1), .inr (.inr (.ref 88))]) (σ' := σ) rfl ?_
    refine wk_call tt_284 rfl rfl rfl rfl rfl tt_333 rfl (by decide) (w_typed z σ (b1) (v4) (b2) _ rb1 r5 rb2 w) (fun u12 σ8 hq10 => ?_)
    obtain ⟨rfl, hF9, w⟩ := hq10
    have w := w hF9
    refine wk_b tt_284 1 (pc' := 368) (ls' := [(2, .inl (b2))]) (st' := []) (σ' := σ8) rfl ?_
    exact wk_rV tt_284 rfl rfl ⟨rfl, (sg_F_t (sg_F_r [101, 30088, 31088] σ) (sg_F_m (L := [101, 30088, 31088]) hF9 rfl)), w⟩
  refine wk_if tt_284 (tgt := 235) rfl rfl (sg_Rz (vz_has ..)) (fun (h2 : (v_has σ (b1) (1)) = 0) => ?_) (fun (h2 : ¬ (v_has σ (b1) (1)) = 0) => ?_)
  ·
    clear w
    refine wk_b tt_284 1 (pc' := 236) (ls' := [(0, .inr (.inr (.ref 88))), (1, .inl (b1)), (2, .inl (b2))]) (st' := [.inl (0), .inl (b1), .inr (.inr (.ref 88))]) (σ' := σ) rfl ?_
    exact wk_ls [(2, .inl (b2))] rfl ⟨rfl, trivial⟩ (jn3 (0) (by simp only [if_pos h2]) (by decide))
  ·
    clear w
    refine wk_b tt_284 1 (pc' := 228) (ls' := [(0, .inr (.inr (.ref 88))), (1, .inl (b1)), (2, .inl (b2))]) (st' := [.inl (b2), .inl (b1), .inr (.inr (.ref 88))]) (σ' := σ) rfl ?_
    refine wk_if tt_284 (tgt := 235) rfl rfl rb2 (fun (h13 : b2 ≤ 0) => ?_) (fun (h13 : 0 < b2) => ?_)
    ·
      refine wk_b tt_284 1 (pc' := 236) (ls' := [(0, .inr (.inr (.ref 88))), (1, .inl (b1)), (2, .inl (b2))]) (st' := [.inl (0), .inl (b1), .inr (.inr (.ref 88))]) (σ' := σ) rfl ?_
      exact wk_ls [(2, .inl (b2))] rfl ⟨rfl, trivial⟩ (jn3 (0) (by simp only [if_neg (show ¬ ((v_has σ (b1) (1)) = 0) by omega), if_pos h13]) (by decide))
    ·
      refine wk_b tt_284 2 (pc' := 236) (ls' := [(0, .inr (.inr (.ref 88))), (1, .inl (b1)), (2, .inl (b2))]) (st' := [.inl (1), .inl (b1), .inr (.inr (.ref 88))]) (σ' := σ) rfl ?_
      exact wk_ls [(2, .inl (b2))] rfl ⟨rfl, trivial⟩ (jn3 (1) (by simp only [if_neg (show ¬ ((v_has σ (b1) (1)) = 0) by omega), if_neg (show ¬ (b2 ≤ 0) by omega)]) (by decide))
-- NestedVectorsModel.lookAct
def V_lookAct_23 (σ : sg_S) (b1 : Int) (b2 : Int) (b3 : Int) (Q : sg_S → Prop) : Prop := p_has σ (b1) (2) ∧ ∀ v4 : Int, v4 = (if (v_has σ (b1) (2)) = 0 then (0 : Int) else (if b2 ≤ 0 then (0 : Int) else (if ¬ b2 = b3 then (0 : Int) else (1 : Int)))) → sg_R v4 → V_typed σ (b1) (v4) (b2) (fun σ8 => sg_F [101, 30088, 31088] σ σ8 → Q σ8)
set_option maxHeartbeats 4000000 in
set_option maxRecDepth 8000 in
theorem w_lookAct_23 (z : Value) (σ : sg_S) (b1 : Int) (b2 : Int) (b3 : Int) (Q : sg_S → Prop) (rb1 : sg_R b1) (rb2 : sg_R b2) (rb3 : sg_R b3) (w : V_lookAct_23 σ b1 b2 b3 Q) : wx z 2 284 243 [(0, .inr (.inr (.ref 88))), (1, .inl (b1)), (2, .inl (b2)), (3, .inl (b3))] [] σ (fun v σ' => v = none ∧ sg_F [101, 30088, 31088] σ σ' ∧ Q σ') := by
  unfold V_lookAct_23 at w
  refine wk_b tt_284 5 (pc' := 248) (ls' := [(0, .inr (.inr (.ref 88))), (1, .inl (b1)), (2, .inl (b2)), (3, .inl (b3))]) (st' := [.inl (2), .inl (b1), .inr (.inr (.ref 88)), .inl (b1), .inr (.inr (.ref 88))]) (σ' := σ) rfl ?_
  obtain ⟨c1, w⟩ := w
  refine wk_callp tt_284 rfl rfl rfl rfl rfl tt_255 rfl (by decide) (w_has z σ (b1) (2) rb1 (by decide) c1) ?_
  have jn3 : ∀ v4 : Int, v4 = (if (v_has σ (b1) (2)) = 0 then (0 : Int) else (if b2 ≤ 0 then (0 : Int) else (if ¬ b2 = b3 then (0 : Int) else (1 : Int)))) → sg_R v4 → wx z 2 284 268 [(2, .inl (b2))] [.inl (v4), .inl (b1), .inr (.inr (.ref 88))] σ (fun v σ' => v = none ∧ sg_F [101, 30088, 31088] σ σ' ∧ Q σ') := by
    intro v4 e6 r5
    have w := w v4 e6 r5
    refine wk_b tt_284 1 (pc' := 269) (ls' := [(2, .inl (b2))]) (st' := [.inl (b2), .inl (v4), .inl (b1), .inr (.inr (.ref 88))]) (σ' := σ) rfl ?_
    refine wk_call tt_284 rfl rfl rfl rfl rfl tt_333 rfl (by decide) (w_typed z σ (b1) (v4) (b2) _ rb1 r5 rb2 w) (fun u12 σ8 hq10 => ?_)
    obtain ⟨rfl, hF9, w⟩ := hq10
    have w := w hF9
    refine wk_b tt_284 1 (pc' := 368) (ls' := [(2, .inl (b2))]) (st' := []) (σ' := σ8) rfl ?_
    exact wk_rV tt_284 rfl rfl ⟨rfl, (sg_F_t (sg_F_r [101, 30088, 31088] σ) (sg_F_m (L := [101, 30088, 31088]) hF9 rfl)), w⟩
  refine wk_if tt_284 (tgt := 267) rfl rfl (sg_Rz (vz_has ..)) (fun (h2 : (v_has σ (b1) (2)) = 0) => ?_) (fun (h2 : ¬ (v_has σ (b1) (2)) = 0) => ?_)
  ·
    clear w
    refine wk_b tt_284 1 (pc' := 268) (ls' := [(0, .inr (.inr (.ref 88))), (1, .inl (b1)), (2, .inl (b2)), (3, .inl (b3))]) (st' := [.inl (0), .inl (b1), .inr (.inr (.ref 88))]) (σ' := σ) rfl ?_
    exact wk_ls [(2, .inl (b2))] rfl ⟨rfl, trivial⟩ (jn3 (0) (by simp only [if_pos h2]) (by decide))
  ·
    clear w
    refine wk_b tt_284 1 (pc' := 255) (ls' := [(0, .inr (.inr (.ref 88))), (1, .inl (b1)), (2, .inl (b2)), (3, .inl (b3))]) (st' := [.inl (b2), .inl (b1), .inr (.inr (.ref 88))]) (σ' := σ) rfl ?_
    refine wk_if tt_284 (tgt := 267) rfl rfl rb2 (fun (h13 : b2 ≤ 0) => ?_) (fun (h13 : 0 < b2) => ?_)
    ·
      refine wk_b tt_284 1 (pc' := 268) (ls' := [(0, .inr (.inr (.ref 88))), (1, .inl (b1)), (2, .inl (b2)), (3, .inl (b3))]) (st' := [.inl (0), .inl (b1), .inr (.inr (.ref 88))]) (σ' := σ) rfl ?_
      exact wk_ls [(2, .inl (b2))] rfl ⟨rfl, trivial⟩ (jn3 (0) (by simp only [if_neg (show ¬ ((v_has σ (b1) (2)) = 0) by omega), if_pos h13]) (by decide))
    ·
      refine wk_b tt_284 2 (pc' := 260) (ls' := [(0, .inr (.inr (.ref 88))), (1, .inl (b1)), (2, .inl (b2)), (3, .inl (b3))]) (st' := [.inl (b3), .inl (b2), .inl (b1), .inr (.inr (.ref 88))]) (σ' := σ) rfl ?_
      refine wk_if2 tt_284 (tgt := 267) rfl rfl rb2 rb3 (fun (h14 : ¬ b2 = b3) => ?_) (fun (h14 : b2 = b3) => ?_)
      ·
        refine wk_b tt_284 1 (pc' := 268) (ls' := [(0, .inr (.inr (.ref 88))), (1, .inl (b1)), (2, .inl (b2)), (3, .inl (b3))]) (st' := [.inl (0), .inl (b1), .inr (.inr (.ref 88))]) (σ' := σ) rfl ?_
        exact wk_ls [(2, .inl (b2))] rfl ⟨rfl, trivial⟩ (jn3 (0) (by simp only [if_neg (show ¬ ((v_has σ (b1) (2)) = 0) by omega), if_neg (show ¬ (b2 ≤ 0) by omega), if_pos h14]) (by decide))
      ·
        refine wk_b tt_284 2 (pc' := 268) (ls' := [(0, .inr (.inr (.ref 88))), (1, .inl (b1)), (2, .inl (b2)), (3, .inl (b3))]) (st' := [.inl (1), .inl (b1), .inr (.inr (.ref 88))]) (σ' := σ) rfl ?_
        exact wk_ls [(2, .inl (b2))] rfl ⟨rfl, trivial⟩ (jn3 (1) (by simp only [if_neg (show ¬ ((v_has σ (b1) (2)) = 0) by omega), if_neg (show ¬ (b2 ≤ 0) by omega), if_neg (show ¬ (¬ b2 = b3) by omega)]) (by decide))
-- NestedVectorsModel.lookAct
def V_lookAct_24 (σ : sg_S) (b1 : Int) (b2 : Int) (Q : sg_S → Prop) : Prop := p_has σ (b1) (1) ∧ ∀ v4 : Int, v4 = (if (v_has σ (b1) (1)) = 0 then (0 : Int) else (if b2 ≤ 1 then (0 : Int) else (1 : Int))) → sg_R v4 → sg_R (b2 - 1) ∧ V_typed σ (b1) (v4) ((b2 - 1)) (fun σ9 => sg_F [101, 30088, 31088] σ σ9 → Q σ9)
set_option maxHeartbeats 4000000 in
set_option maxRecDepth 8000 in
theorem w_lookAct_24 (z : Value) (σ : sg_S) (b1 : Int) (b2 : Int) (Q : sg_S → Prop) (rb1 : sg_R b1) (rb2 : sg_R b2) (w : V_lookAct_24 σ b1 b2 Q) : wx z 2 284 275 [(0, .inr (.inr (.ref 88))), (1, .inl (b1)), (2, .inl (b2))] [] σ (fun v σ' => v = none ∧ sg_F [101, 30088, 31088] σ σ' ∧ Q σ') := by
  unfold V_lookAct_24 at w
  refine wk_b tt_284 5 (pc' := 280) (ls' := [(0, .inr (.inr (.ref 88))), (1, .inl (b1)), (2, .inl (b2))]) (st' := [.inl (1), .inl (b1), .inr (.inr (.ref 88)), .inl (b1), .inr (.inr (.ref 88))]) (σ' := σ) rfl ?_
  obtain ⟨c1, w⟩ := w
  refine wk_callp tt_284 rfl rfl rfl rfl rfl tt_255 rfl (by decide) (w_has z σ (b1) (1) rb1 (by decide) c1) ?_
  have jn3 : ∀ v4 : Int, v4 = (if (v_has σ (b1) (1)) = 0 then (0 : Int) else (if b2 ≤ 1 then (0 : Int) else (1 : Int))) → sg_R v4 → wx z 2 284 296 [(2, .inl (b2))] [.inl (v4), .inl (b1), .inr (.inr (.ref 88))] σ (fun v σ' => v = none ∧ sg_F [101, 30088, 31088] σ σ' ∧ Q σ') := by
    intro v4 e6 r5
    have w := w v4 e6 r5
    obtain ⟨c7, w⟩ := w
    refine wk_b tt_284 3 (pc' := 299) (ls' := [(2, .inl (b2))]) (st' := [.inl ((b2 - 1)), .inl (v4), .inl (b1), .inr (.inr (.ref 88))]) (σ' := σ) rfl ?_
    refine wk_call tt_284 rfl rfl rfl rfl rfl tt_333 rfl (by decide) (w_typed z σ (b1) (v4) ((b2 - 1)) _ rb1 r5 c7 w) (fun u13 σ9 hq11 => ?_)
    obtain ⟨rfl, hF10, w⟩ := hq11
    have w := w hF10
    refine wk_b tt_284 1 (pc' := 368) (ls' := [(2, .inl (b2))]) (st' := []) (σ' := σ9) rfl ?_
    exact wk_rV tt_284 rfl rfl ⟨rfl, (sg_F_t (sg_F_r [101, 30088, 31088] σ) (sg_F_m (L := [101, 30088, 31088]) hF10 rfl)), w⟩
  refine wk_if tt_284 (tgt := 295) rfl rfl (sg_Rz (vz_has ..)) (fun (h2 : (v_has σ (b1) (1)) = 0) => ?_) (fun (h2 : ¬ (v_has σ (b1) (1)) = 0) => ?_)
  ·
    clear w
    refine wk_b tt_284 1 (pc' := 296) (ls' := [(0, .inr (.inr (.ref 88))), (1, .inl (b1)), (2, .inl (b2))]) (st' := [.inl (0), .inl (b1), .inr (.inr (.ref 88))]) (σ' := σ) rfl ?_
    exact wk_ls [(2, .inl (b2))] rfl ⟨rfl, trivial⟩ (jn3 (0) (by simp only [if_pos h2]) (by decide))
  ·
    clear w
    refine wk_b tt_284 2 (pc' := 288) (ls' := [(0, .inr (.inr (.ref 88))), (1, .inl (b1)), (2, .inl (b2))]) (st' := [.inl (1), .inl (b2), .inl (b1), .inr (.inr (.ref 88))]) (σ' := σ) rfl ?_
    refine wk_if2 tt_284 (tgt := 295) rfl rfl rb2 (by decide) (fun (h14 : b2 ≤ 1) => ?_) (fun (h14 : 1 < b2) => ?_)
    ·
      refine wk_b tt_284 1 (pc' := 296) (ls' := [(0, .inr (.inr (.ref 88))), (1, .inl (b1)), (2, .inl (b2))]) (st' := [.inl (0), .inl (b1), .inr (.inr (.ref 88))]) (σ' := σ) rfl ?_
      exact wk_ls [(2, .inl (b2))] rfl ⟨rfl, trivial⟩ (jn3 (0) (by simp only [if_neg (show ¬ ((v_has σ (b1) (1)) = 0) by omega), if_pos h14]) (by decide))
    ·
      refine wk_b tt_284 2 (pc' := 296) (ls' := [(0, .inr (.inr (.ref 88))), (1, .inl (b1)), (2, .inl (b2))]) (st' := [.inl (1), .inl (b1), .inr (.inr (.ref 88))]) (σ' := σ) rfl ?_
      exact wk_ls [(2, .inl (b2))] rfl ⟨rfl, trivial⟩ (jn3 (1) (by simp only [if_neg (show ¬ ((v_has σ (b1) (1)) = 0) by omega), if_neg (show ¬ (b2 ≤ 1) by omega)]) (by decide))
