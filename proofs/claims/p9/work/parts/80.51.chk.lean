/-! What the methods of Checker ask for (2). -/
-- NestedVectors$Checker.ahead
def V_kAhead (σ : sg_S) (a1 : Int) (a2 : Int) (Q : sg_S → Prop) : Prop := ((¬ (sx_at σ 3 200 (a1)) = 262 → ((¬ (sx_at σ 3 200 (a1)) = 264 → ((¬ (sx_at σ 3 200 (a1)) = 123 → ((¬ (sx_at σ 3 200 (a1)) = 123 → Q σ) ∧ ((sx_at σ 3 200 (a1)) = 123 → ((a2 ≤ (sx_at σ 13 200 (a1)) → Q σ) ∧ ((sx_at σ 13 200 (a1)) < a2 → V_kpAdd σ (11) (a1) (fun σ7 => sg_F [29, 30, 32, 33, 7028] σ σ7 → Q σ7)))))) ∧ ((sx_at σ 3 200 (a1)) = 123 → ((¬ a2 = (sx_at σ 13 200 (a1)) → ((¬ (sx_at σ 3 200 (a1)) = 123 → Q σ) ∧ ((sx_at σ 3 200 (a1)) = 123 → ((a2 ≤ (sx_at σ 13 200 (a1)) → Q σ) ∧ ((sx_at σ 13 200 (a1)) < a2 → V_kpAdd σ (11) (a1) (fun σ16 => sg_F [29, 30, 32, 33, 7028] σ σ16 → Q σ16)))))) ∧ (a2 = (sx_at σ 13 200 (a1)) → V_kOpen σ (a1) (fun σ22 => sg_F [16, 29, 30, 32, 33, 34, 39, 40, 7028, 10038, 11038, 13038, 14038] σ σ22 → Q σ22)))))) ∧ ((sx_at σ 3 200 (a1)) = 264 → ((a2 ≤ 0 → ((¬ (sx_at σ 3 200 (a1)) = 123 → ((¬ (sx_at σ 3 200 (a1)) = 123 → Q σ) ∧ ((sx_at σ 3 200 (a1)) = 123 → ((a2 ≤ (sx_at σ 13 200 (a1)) → Q σ) ∧ ((sx_at σ 13 200 (a1)) < a2 → V_kpAdd σ (11) (a1) (fun σ32 => sg_F [29, 30, 32, 33, 7028] σ σ32 → Q σ32)))))) ∧ ((sx_at σ 3 200 (a1)) = 123 → ((¬ a2 = (sx_at σ 13 200 (a1)) → ((¬ (sx_at σ 3 200 (a1)) = 123 → Q σ) ∧ ((sx_at σ 3 200 (a1)) = 123 → ((a2 ≤ (sx_at σ 13 200 (a1)) → Q σ) ∧ ((sx_at σ 13 200 (a1)) < a2 → V_kpAdd σ (11) (a1) (fun σ41 => sg_F [29, 30, 32, 33, 7028] σ σ41 → Q σ41)))))) ∧ (a2 = (sx_at σ 13 200 (a1)) → V_kOpen σ (a1) (fun σ47 => sg_F [16, 29, 30, 32, 33, 34, 39, 40, 7028, 10038, 11038, 13038, 14038] σ σ47 → Q σ47)))))) ∧ (0 < a2 → ∀ v54 : Int, v54 = (if ¬ a2 = 1 then (8 : Int) else (7 : Int)) → sg_R v54 → V_kpAdd σ (v54) (a1) (fun σ58 => sg_F [29, 30, 32, 33, 7028] σ σ58 → Q σ58)))))) ∧ ((sx_at σ 3 200 (a1)) = 262 → ((¬ a2 = 1 → ((¬ (sx_at σ 3 200 (a1)) = 264 → ((¬ (sx_at σ 3 200 (a1)) = 123 → ((¬ (sx_at σ 3 200 (a1)) = 123 → Q σ) ∧ ((sx_at σ 3 200 (a1)) = 123 → ((a2 ≤ (sx_at σ 13 200 (a1)) → Q σ) ∧ ((sx_at σ 13 200 (a1)) < a2 → V_kpAdd σ (11) (a1) (fun σ69 => sg_F [29, 30, 32, 33, 7028] σ σ69 → Q σ69)))))) ∧ ((sx_at σ 3 200 (a1)) = 123 → ((¬ a2 = (sx_at σ 13 200 (a1)) → ((¬ (sx_at σ 3 200 (a1)) = 123 → Q σ) ∧ ((sx_at σ 3 200 (a1)) = 123 → ((a2 ≤ (sx_at σ 13 200 (a1)) → Q σ) ∧ ((sx_at σ 13 200 (a1)) < a2 → V_kpAdd σ (11) (a1) (fun σ78 => sg_F [29, 30, 32, 33, 7028] σ σ78 → Q σ78)))))) ∧ (a2 = (sx_at σ 13 200 (a1)) → V_kOpen σ (a1) (fun σ84 => sg_F [16, 29, 30, 32, 33, 34, 39, 40, 7028, 10038, 11038, 13038, 14038] σ σ84 → Q σ84)))))) ∧ ((sx_at σ 3 200 (a1)) = 264 → ((a2 ≤ 0 → ((¬ (sx_at σ 3 200 (a1)) = 123 → ((¬ (sx_at σ 3 200 (a1)) = 123 → Q σ) ∧ ((sx_at σ 3 200 (a1)) = 123 → ((a2 ≤ (sx_at σ 13 200 (a1)) → Q σ) ∧ ((sx_at σ 13 200 (a1)) < a2 → V_kpAdd σ (11) (a1) (fun σ94 => sg_F [29, 30, 32, 33, 7028] σ σ94 → Q σ94)))))) ∧ ((sx_at σ 3 200 (a1)) = 123 → ((¬ a2 = (sx_at σ 13 200 (a1)) → ((¬ (sx_at σ 3 200 (a1)) = 123 → Q σ) ∧ ((sx_at σ 3 200 (a1)) = 123 → ((a2 ≤ (sx_at σ 13 200 (a1)) → Q σ) ∧ ((sx_at σ 13 200 (a1)) < a2 → V_kpAdd σ (11) (a1) (fun σ103 => sg_F [29, 30, 32, 33, 7028] σ σ103 → Q σ103)))))) ∧ (a2 = (sx_at σ 13 200 (a1)) → V_kOpen σ (a1) (fun σ109 => sg_F [16, 29, 30, 32, 33, 34, 39, 40, 7028, 10038, 11038, 13038, 14038] σ σ109 → Q σ109)))))) ∧ (0 < a2 → ∀ v116 : Int, v116 = (if ¬ a2 = 1 then (8 : Int) else (7 : Int)) → sg_R v116 → V_kpAdd σ (v116) (a1) (fun σ120 => sg_F [29, 30, 32, 33, 7028] σ σ120 → Q σ120)))))) ∧ (a2 = 1 → V_kBind σ ((sx_atl σ 17 200 (a1))) ((sx_at σ 6 200 ((sx_at σ 7 200 (a1))))) (fun q125 σ126 => sg_R q125 → sg_F [34, 39, 40, 10038, 11038] σ σ126 → ∀ σ131, σ131 = (sx_put σ126 16 200 (a1) (q125)) → V_kpAdd σ131 (4) (a1) (fun σ135 => sg_F [29, 30, 32, 33, 7028] σ131 σ135 → Q σ135))))))
set_option maxHeartbeats 4000000 in
set_option maxRecDepth 8000 in
theorem w_kAhead (z : Value) (σ : sg_S) (a1 : Int) (a2 : Int) (Q : sg_S → Prop) (ra1 : sg_R a1) (ra2 : sg_R a2) (w : V_kAhead σ a1 a2 Q) : wx z 3 26 0 [(0, .inr (.inr (.ref 38))), (1, .inl (a1)), (2, .inl (a2))] [] σ (fun v σ' => v = none ∧ sg_F [16, 29, 30, 32, 33, 34, 39, 40, 7028, 10038, 11038, 13038, 14038] σ σ' ∧ Q σ') := by
  unfold V_kAhead at w
  refine wk_b tt_26 4 (pc' := 8) (ls' := [(0, .inr (.inr (.ref 38))), (1, .inl (a1)), (2, .inl (a2))]) (st' := [.inl (a1), .inr (.inr (.ref 3))]) (σ' := σ) rfl ?_
  refine wk_callp tt_26 rfl rfl rfl rfl rfl tt_5 rfl (by decide) (at_i0 z σ 3 200 (a1) rfl (by decide) ra1) ?_
  show wx z 3 26 11 [(0, .inr (.inr (.ref 38))), (1, .inl (a1)), (2, .inl (a2))] [.inl ((sx_at σ 3 200 (a1)))] σ (fun v σ' => v = none ∧ sg_F [16, 29, 30, 32, 33, 34, 39, 40, 7028, 10038, 11038, 13038, 14038] σ σ' ∧ Q σ')
  refine wk_b tt_26 3 (pc' := 16) (ls' := [(3, .inl ((sx_at σ 3 200 (a1)))), (0, .inr (.inr (.ref 38))), (1, .inl (a1)), (2, .inl (a2))]) (st' := [.inl (262), .inl ((sx_at σ 3 200 (a1)))]) (σ' := σ) rfl ?_
  refine wk_if2 tt_26 (tgt := 83) rfl rfl (sx_R ..) (by decide) (fun (h1 : ¬ (sx_at σ 3 200 (a1)) = 262) => ?_) (fun (h1 : (sx_at σ 3 200 (a1)) = 262) => ?_)
  ·
    have w := w.1 h1
    refine wk_b tt_26 2 (pc' := 87) (ls' := [(3, .inl ((sx_at σ 3 200 (a1)))), (0, .inr (.inr (.ref 38))), (1, .inl (a1)), (2, .inl (a2))]) (st' := [.inl (264), .inl ((sx_at σ 3 200 (a1)))]) (σ' := σ) rfl ?_
    refine wk_if2 tt_26 (tgt := 117) rfl rfl (sx_R ..) (by decide) (fun (h2 : ¬ (sx_at σ 3 200 (a1)) = 264) => ?_) (fun (h2 : (sx_at σ 3 200 (a1)) = 264) => ?_)
    ·
      have w := w.1 h2
      refine wk_b tt_26 2 (pc' := 120) (ls' := [(3, .inl ((sx_at σ 3 200 (a1)))), (0, .inr (.inr (.ref 38))), (1, .inl (a1)), (2, .inl (a2))]) (st' := [.inl (123), .inl ((sx_at σ 3 200 (a1)))]) (σ' := σ) rfl ?_
      refine wk_if2 tt_26 (tgt := 146) rfl rfl (sx_R ..) (by decide) (fun (h3 : ¬ (sx_at σ 3 200 (a1)) = 123) => ?_) (fun (h3 : (sx_at σ 3 200 (a1)) = 123) => ?_)
      ·
        have w := w.1 h3
        refine wk_b tt_26 2 (pc' := 149) (ls' := [(3, .inl ((sx_at σ 3 200 (a1)))), (0, .inr (.inr (.ref 38))), (1, .inl (a1)), (2, .inl (a2))]) (st' := [.inl (123), .inl ((sx_at σ 3 200 (a1)))]) (σ' := σ) rfl ?_
        refine wk_if2 tt_26 (tgt := 177) rfl rfl (sx_R ..) (by decide) (fun (h4 : ¬ (sx_at σ 3 200 (a1)) = 123) => ?_) (fun (h4 : (sx_at σ 3 200 (a1)) = 123) => ?_)
        ·
          have w := w.1 h4
          exact wk_rV tt_26 rfl rfl ⟨rfl, (sg_F_r [16, 29, 30, 32, 33, 34, 39, 40, 7028, 10038, 11038, 13038, 14038] σ), w⟩
        ·
          have w := w.2 h4
          refine wk_b tt_26 5 (pc' := 161) (ls' := [(3, .inl ((sx_at σ 3 200 (a1)))), (0, .inr (.inr (.ref 38))), (1, .inl (a1)), (2, .inl (a2))]) (st' := [.inl (a1), .inr (.inr (.ref 13)), .inl (a2)]) (σ' := σ) rfl ?_
          refine wk_callp tt_26 rfl rfl rfl rfl rfl tt_5 rfl (by decide) (at_i0 z σ 13 200 (a1) rfl (by decide) ra1) ?_
          show wx z 3 26 164 [(3, .inl ((sx_at σ 3 200 (a1)))), (0, .inr (.inr (.ref 38))), (1, .inl (a1)), (2, .inl (a2))] [.inl ((sx_at σ 13 200 (a1))), .inl (a2)] σ (fun v σ' => v = none ∧ sg_F [16, 29, 30, 32, 33, 34, 39, 40, 7028, 10038, 11038, 13038, 14038] σ σ' ∧ Q σ')
          refine wk_if2 tt_26 (tgt := 177) rfl rfl ra2 (sx_R ..) (fun (h5 : a2 ≤ (sx_at σ 13 200 (a1))) => ?_) (fun (h5 : (sx_at σ 13 200 (a1)) < a2) => ?_)
          ·
            have w := w.1 h5
            exact wk_rV tt_26 rfl rfl ⟨rfl, (sg_F_r [16, 29, 30, 32, 33, 34, 39, 40, 7028, 10038, 11038, 13038, 14038] σ), w⟩
          ·
            have w := w.2 h5
            refine wk_b tt_26 4 (pc' := 174) (ls' := [(3, .inl ((sx_at σ 3 200 (a1)))), (0, .inr (.inr (.ref 38))), (1, .inl (a1)), (2, .inl (a2))]) (st' := [.inl (a1), .inl (11), .inr (.inr (.ref 28))]) (σ' := σ) rfl ?_
            refine wk_call tt_26 rfl rfl rfl rfl rfl tt_193 rfl (by decide) (w_kpAdd z σ (11) (a1) _ (by decide) ra1 w) (fun u11 σ7 hq9 => ?_)
            obtain ⟨rfl, hF8, w⟩ := hq9
            have w := w hF8
            exact wk_rV tt_26 rfl rfl ⟨rfl, (sg_F_t (sg_F_r [16, 29, 30, 32, 33, 34, 39, 40, 7028, 10038, 11038, 13038, 14038] σ) (sg_F_m (L := [16, 29, 30, 32, 33, 34, 39, 40, 7028, 10038, 11038, 13038, 14038]) hF8 rfl)), w⟩
      ·
        have w := w.2 h3
        refine wk_b tt_26 5 (pc' := 132) (ls' := [(3, .inl ((sx_at σ 3 200 (a1)))), (0, .inr (.inr (.ref 38))), (1, .inl (a1)), (2, .inl (a2))]) (st' := [.inl (a1), .inr (.inr (.ref 13)), .inl (a2)]) (σ' := σ) rfl ?_
        refine wk_callp tt_26 rfl rfl rfl rfl rfl tt_5 rfl (by decide) (at_i0 z σ 13 200 (a1) rfl (by decide) ra1) ?_
        show wx z 3 26 135 [(3, .inl ((sx_at σ 3 200 (a1)))), (0, .inr (.inr (.ref 38))), (1, .inl (a1)), (2, .inl (a2))] [.inl ((sx_at σ 13 200 (a1))), .inl (a2)] σ (fun v σ' => v = none ∧ sg_F [16, 29, 30, 32, 33, 34, 39, 40, 7028, 10038, 11038, 13038, 14038] σ σ' ∧ Q σ')
        refine wk_if2 tt_26 (tgt := 146) rfl rfl ra2 (sx_R ..) (fun (h12 : ¬ a2 = (sx_at σ 13 200 (a1))) => ?_) (fun (h12 : a2 = (sx_at σ 13 200 (a1))) => ?_)
        ·
          have w := w.1 h12
          refine wk_b tt_26 2 (pc' := 149) (ls' := [(3, .inl ((sx_at σ 3 200 (a1)))), (0, .inr (.inr (.ref 38))), (1, .inl (a1)), (2, .inl (a2))]) (st' := [.inl (123), .inl ((sx_at σ 3 200 (a1)))]) (σ' := σ) rfl ?_
          refine wk_if2 tt_26 (tgt := 177) rfl rfl (sx_R ..) (by decide) (fun (h13 : ¬ (sx_at σ 3 200 (a1)) = 123) => ?_) (fun (h13 : (sx_at σ 3 200 (a1)) = 123) => ?_)
          ·
            have w := w.1 h13
            exact wk_rV tt_26 rfl rfl ⟨rfl, (sg_F_r [16, 29, 30, 32, 33, 34, 39, 40, 7028, 10038, 11038, 13038, 14038] σ), w⟩
          ·
            have w := w.2 h13
            refine wk_b tt_26 5 (pc' := 161) (ls' := [(3, .inl ((sx_at σ 3 200 (a1)))), (0, .inr (.inr (.ref 38))), (1, .inl (a1)), (2, .inl (a2))]) (st' := [.inl (a1), .inr (.inr (.ref 13)), .inl (a2)]) (σ' := σ) rfl ?_
            refine wk_callp tt_26 rfl rfl rfl rfl rfl tt_5 rfl (by decide) (at_i0 z σ 13 200 (a1) rfl (by decide) ra1) ?_
            show wx z 3 26 164 [(3, .inl ((sx_at σ 3 200 (a1)))), (0, .inr (.inr (.ref 38))), (1, .inl (a1)), (2, .inl (a2))] [.inl ((sx_at σ 13 200 (a1))), .inl (a2)] σ (fun v σ' => v = none ∧ sg_F [16, 29, 30, 32, 33, 34, 39, 40, 7028, 10038, 11038, 13038, 14038] σ σ' ∧ Q σ')
            refine wk_if2 tt_26 (tgt := 177) rfl rfl ra2 (sx_R ..) (fun (h14 : a2 ≤ (sx_at σ 13 200 (a1))) => ?_) (fun (h14 : (sx_at σ 13 200 (a1)) < a2) => ?_)
            ·
              have w := w.1 h14
              exact wk_rV tt_26 rfl rfl ⟨rfl, (sg_F_r [16, 29, 30, 32, 33, 34, 39, 40, 7028, 10038, 11038, 13038, 14038] σ), w⟩
            ·
              have w := w.2 h14
              refine wk_b tt_26 4 (pc' := 174) (ls' := [(3, .inl ((sx_at σ 3 200 (a1)))), (0, .inr (.inr (.ref 38))), (1, .inl (a1)), (2, .inl (a2))]) (st' := [.inl (a1), .inl (11), .inr (.inr (.ref 28))]) (σ' := σ) rfl ?_
              refine wk_call tt_26 rfl rfl rfl rfl rfl tt_193 rfl (by decide) (w_kpAdd z σ (11) (a1) _ (by decide) ra1 w) (fun u20 σ16 hq18 => ?_)
              obtain ⟨rfl, hF17, w⟩ := hq18
              have w := w hF17
              exact wk_rV tt_26 rfl rfl ⟨rfl, (sg_F_t (sg_F_r [16, 29, 30, 32, 33, 34, 39, 40, 7028, 10038, 11038, 13038, 14038] σ) (sg_F_m (L := [16, 29, 30, 32, 33, 34, 39, 40, 7028, 10038, 11038, 13038, 14038]) hF17 rfl)), w⟩
        ·
          have w := w.2 h12
          refine wk_b tt_26 2 (pc' := 140) (ls' := [(3, .inl ((sx_at σ 3 200 (a1)))), (0, .inr (.inr (.ref 38))), (1, .inl (a1)), (2, .inl (a2))]) (st' := [.inl (a1), .inr (.inr (.ref 38))]) (σ' := σ) rfl ?_
          refine wk_call tt_26 rfl rfl rfl rfl rfl tt_41 rfl (by decide) (w_kOpen z σ (a1) _ ra1 w) (fun u26 σ22 hq24 => ?_)
          obtain ⟨rfl, hF23, w⟩ := hq24
          have w := w hF23
          refine wk_b tt_26 1 (pc' := 177) (ls' := [(3, .inl ((sx_at σ 3 200 (a1)))), (0, .inr (.inr (.ref 38))), (1, .inl (a1)), (2, .inl (a2))]) (st' := []) (σ' := σ22) rfl ?_
          exact wk_rV tt_26 rfl rfl ⟨rfl, (sg_F_t (sg_F_r [16, 29, 30, 32, 33, 34, 39, 40, 7028, 10038, 11038, 13038, 14038] σ) (sg_F_m (L := [16, 29, 30, 32, 33, 34, 39, 40, 7028, 10038, 11038, 13038, 14038]) hF23 rfl)), w⟩
    ·
      have w := w.2 h2
      refine wk_b tt_26 1 (pc' := 91) (ls' := [(3, .inl ((sx_at σ 3 200 (a1)))), (0, .inr (.inr (.ref 38))), (1, .inl (a1)), (2, .inl (a2))]) (st' := [.inl (a2)]) (σ' := σ) rfl ?_
      refine wk_if tt_26 (tgt := 117) rfl rfl ra2 (fun (h27 : a2 ≤ 0) => ?_) (fun (h27 : 0 < a2) => ?_)
      ·
        have w := w.1 h27
        refine wk_b tt_26 2 (pc' := 120) (ls' := [(3, .inl ((sx_at σ 3 200 (a1)))), (0, .inr (.inr (.ref 38))), (1, .inl (a1)), (2, .inl (a2))]) (st' := [.inl (123), .inl ((sx_at σ 3 200 (a1)))]) (σ' := σ) rfl ?_
        refine wk_if2 tt_26 (tgt := 146) rfl rfl (sx_R ..) (by decide) (fun (h28 : ¬ (sx_at σ 3 200 (a1)) = 123) => ?_) (fun (h28 : (sx_at σ 3 200 (a1)) = 123) => ?_)
        ·
          have w := w.1 h28
          refine wk_b tt_26 2 (pc' := 149) (ls' := [(3, .inl ((sx_at σ 3 200 (a1)))), (0, .inr (.inr (.ref 38))), (1, .inl (a1)), (2, .inl (a2))]) (st' := [.inl (123), .inl ((sx_at σ 3 200 (a1)))]) (σ' := σ) rfl ?_
          refine wk_if2 tt_26 (tgt := 177) rfl rfl (sx_R ..) (by decide) (fun (h29 : ¬ (sx_at σ 3 200 (a1)) = 123) => ?_) (fun (h29 : (sx_at σ 3 200 (a1)) = 123) => ?_)
          ·
            have w := w.1 h29
            exact wk_rV tt_26 rfl rfl ⟨rfl, (sg_F_r [16, 29, 30, 32, 33, 34, 39, 40, 7028, 10038, 11038, 13038, 14038] σ), w⟩
          ·
            have w := w.2 h29
            refine wk_b tt_26 5 (pc' := 161) (ls' := [(3, .inl ((sx_at σ 3 200 (a1)))), (0, .inr (.inr (.ref 38))), (1, .inl (a1)), (2, .inl (a2))]) (st' := [.inl (a1), .inr (.inr (.ref 13)), .inl (a2)]) (σ' := σ) rfl ?_
            refine wk_callp tt_26 rfl rfl rfl rfl rfl tt_5 rfl (by decide) (at_i0 z σ 13 200 (a1) rfl (by decide) ra1) ?_
            show wx z 3 26 164 [(3, .inl ((sx_at σ 3 200 (a1)))), (0, .inr (.inr (.ref 38))), (1, .inl (a1)), (2, .inl (a2))] [.inl ((sx_at σ 13 200 (a1))), .inl (a2)] σ (fun v σ' => v = none ∧ sg_F [16, 29, 30, 32, 33, 34, 39, 40, 7028, 10038, 11038, 13038, 14038] σ σ' ∧ Q σ')
            refine wk_if2 tt_26 (tgt := 177) rfl rfl ra2 (sx_R ..) (fun (h30 : a2 ≤ (sx_at σ 13 200 (a1))) => ?_) (fun (h30 : (sx_at σ 13 200 (a1)) < a2) => ?_)
            ·
              have w := w.1 h30
              exact wk_rV tt_26 rfl rfl ⟨rfl, (sg_F_r [16, 29, 30, 32, 33, 34, 39, 40, 7028, 10038, 11038, 13038, 14038] σ), w⟩
            ·
              have w := w.2 h30
              refine wk_b tt_26 4 (pc' := 174) (ls' := [(3, .inl ((sx_at σ 3 200 (a1)))), (0, .inr (.inr (.ref 38))), (1, .inl (a1)), (2, .inl (a2))]) (st' := [.inl (a1), .inl (11), .inr (.inr (.ref 28))]) (σ' := σ) rfl ?_
              refine wk_call tt_26 rfl rfl rfl rfl rfl tt_193 rfl (by decide) (w_kpAdd z σ (11) (a1) _ (by decide) ra1 w) (fun u36 σ32 hq34 => ?_)
              obtain ⟨rfl, hF33, w⟩ := hq34
              have w := w hF33
              exact wk_rV tt_26 rfl rfl ⟨rfl, (sg_F_t (sg_F_r [16, 29, 30, 32, 33, 34, 39, 40, 7028, 10038, 11038, 13038, 14038] σ) (sg_F_m (L := [16, 29, 30, 32, 33, 34, 39, 40, 7028, 10038, 11038, 13038, 14038]) hF33 rfl)), w⟩
        ·
          have w := w.2 h28
          refine wk_b tt_26 5 (pc' := 132) (ls' := [(3, .inl ((sx_at σ 3 200 (a1)))), (0, .inr (.inr (.ref 38))), (1, .inl (a1)), (2, .inl (a2))]) (st' := [.inl (a1), .inr (.inr (.ref 13)), .inl (a2)]) (σ' := σ) rfl ?_
          refine wk_callp tt_26 rfl rfl rfl rfl rfl tt_5 rfl (by decide) (at_i0 z σ 13 200 (a1) rfl (by decide) ra1) ?_
          show wx z 3 26 135 [(3, .inl ((sx_at σ 3 200 (a1)))), (0, .inr (.inr (.ref 38))), (1, .inl (a1)), (2, .inl (a2))] [.inl ((sx_at σ 13 200 (a1))), .inl (a2)] σ (fun v σ' => v = none ∧ sg_F [16, 29, 30, 32, 33, 34, 39, 40, 7028, 10038, 11038, 13038, 14038] σ σ' ∧ Q σ')
          refine wk_if2 tt_26 (tgt := 146) rfl rfl ra2 (sx_R ..) (fun (h37 : ¬ a2 = (sx_at σ 13 200 (a1))) => ?_) (fun (h37 : a2 = (sx_at σ 13 200 (a1))) => ?_)
          ·
            have w := w.1 h37
            refine wk_b tt_26 2 (pc' := 149) (ls' := [(3, .inl ((sx_at σ 3 200 (a1)))), (0, .inr (.inr (.ref 38))), (1, .inl (a1)), (2, .inl (a2))]) (st' := [.inl (123), .inl ((sx_at σ 3 200 (a1)))]) (σ' := σ) rfl ?_
            refine wk_if2 tt_26 (tgt := 177) rfl rfl (sx_R ..) (by decide) (fun (h38 : ¬ (sx_at σ 3 200 (a1)) = 123) => ?_) (fun (h38 : (sx_at σ 3 200 (a1)) = 123) => ?_)
            ·
              have w := w.1 h38
              exact wk_rV tt_26 rfl rfl ⟨rfl, (sg_F_r [16, 29, 30, 32, 33, 34, 39, 40, 7028, 10038, 11038, 13038, 14038] σ), w⟩
            ·
              have w := w.2 h38
              refine wk_b tt_26 5 (pc' := 161) (ls' := [(3, .inl ((sx_at σ 3 200 (a1)))), (0, .inr (.inr (.ref 38))), (1, .inl (a1)), (2, .inl (a2))]) (st' := [.inl (a1), .inr (.inr (.ref 13)), .inl (a2)]) (σ' := σ) rfl ?_
              refine wk_callp tt_26 rfl rfl rfl rfl rfl tt_5 rfl (by decide) (at_i0 z σ 13 200 (a1) rfl (by decide) ra1) ?_
              show wx z 3 26 164 [(3, .inl ((sx_at σ 3 200 (a1)))), (0, .inr (.inr (.ref 38))), (1, .inl (a1)), (2, .inl (a2))] [.inl ((sx_at σ 13 200 (a1))), .inl (a2)] σ (fun v σ' => v = none ∧ sg_F [16, 29, 30, 32, 33, 34, 39, 40, 7028, 10038, 11038, 13038, 14038] σ σ' ∧ Q σ')
              refine wk_if2 tt_26 (tgt := 177) rfl rfl ra2 (sx_R ..) (fun (h39 : a2 ≤ (sx_at σ 13 200 (a1))) => ?_) (fun (h39 : (sx_at σ 13 200 (a1)) < a2) => ?_)
              ·
                have w := w.1 h39
                exact wk_rV tt_26 rfl rfl ⟨rfl, (sg_F_r [16, 29, 30, 32, 33, 34, 39, 40, 7028, 10038, 11038, 13038, 14038] σ), w⟩
              ·
                have w := w.2 h39
                refine wk_b tt_26 4 (pc' := 174) (ls' := [(3, .inl ((sx_at σ 3 200 (a1)))), (0, .inr (.inr (.ref 38))), (1, .inl (a1)), (2, .inl (a2))]) (st' := [.inl (a1), .inl (11), .inr (.inr (.ref 28))]) (σ' := σ) rfl ?_
                refine wk_call tt_26 rfl rfl rfl rfl rfl tt_193 rfl (by decide) (w_kpAdd z σ (11) (a1) _ (by decide) ra1 w) (fun u45 σ41 hq43 => ?_)
                obtain ⟨rfl, hF42, w⟩ := hq43
                have w := w hF42
                exact wk_rV tt_26 rfl rfl ⟨rfl, (sg_F_t (sg_F_r [16, 29, 30, 32, 33, 34, 39, 40, 7028, 10038, 11038, 13038, 14038] σ) (sg_F_m (L := [16, 29, 30, 32, 33, 34, 39, 40, 7028, 10038, 11038, 13038, 14038]) hF42 rfl)), w⟩
          ·
            have w := w.2 h37
            refine wk_b tt_26 2 (pc' := 140) (ls' := [(3, .inl ((sx_at σ 3 200 (a1)))), (0, .inr (.inr (.ref 38))), (1, .inl (a1)), (2, .inl (a2))]) (st' := [.inl (a1), .inr (.inr (.ref 38))]) (σ' := σ) rfl ?_
            refine wk_call tt_26 rfl rfl rfl rfl rfl tt_41 rfl (by decide) (w_kOpen z σ (a1) _ ra1 w) (fun u51 σ47 hq49 => ?_)
            obtain ⟨rfl, hF48, w⟩ := hq49
            have w := w hF48
            refine wk_b tt_26 1 (pc' := 177) (ls' := [(3, .inl ((sx_at σ 3 200 (a1)))), (0, .inr (.inr (.ref 38))), (1, .inl (a1)), (2, .inl (a2))]) (st' := []) (σ' := σ47) rfl ?_
            exact wk_rV tt_26 rfl rfl ⟨rfl, (sg_F_t (sg_F_r [16, 29, 30, 32, 33, 34, 39, 40, 7028, 10038, 11038, 13038, 14038] σ) (sg_F_m (L := [16, 29, 30, 32, 33, 34, 39, 40, 7028, 10038, 11038, 13038, 14038]) hF48 rfl)), w⟩
      ·
        have w := w.2 h27
        refine wk_b tt_26 4 (pc' := 100) (ls' := [(3, .inl ((sx_at σ 3 200 (a1)))), (0, .inr (.inr (.ref 38))), (1, .inl (a1)), (2, .inl (a2))]) (st' := [.inl (1), .inl (a2), .inr (.inr (.ref 28))]) (σ' := σ) rfl ?_
        have jn53 : ∀ v54 : Int, v54 = (if ¬ a2 = 1 then (8 : Int) else (7 : Int)) → sg_R v54 → wx z 3 26 110 [(1, .inl (a1))] [.inl (v54), .inr (.inr (.ref 28))] σ (fun v σ' => v = none ∧ sg_F [16, 29, 30, 32, 33, 34, 39, 40, 7028, 10038, 11038, 13038, 14038] σ σ' ∧ Q σ') := by
          intro v54 e56 r55
          have w := w v54 e56 r55
          refine wk_b tt_26 1 (pc' := 111) (ls' := [(1, .inl (a1))]) (st' := [.inl (a1), .inl (v54), .inr (.inr (.ref 28))]) (σ' := σ) rfl ?_
          refine wk_call tt_26 rfl rfl rfl rfl rfl tt_193 rfl (by decide) (w_kpAdd z σ (v54) (a1) _ r55 ra1 w) (fun u62 σ58 hq60 => ?_)
          obtain ⟨rfl, hF59, w⟩ := hq60
          have w := w hF59
          refine wk_b tt_26 1 (pc' := 177) (ls' := [(1, .inl (a1))]) (st' := []) (σ' := σ58) rfl ?_
          exact wk_rV tt_26 rfl rfl ⟨rfl, (sg_F_t (sg_F_r [16, 29, 30, 32, 33, 34, 39, 40, 7028, 10038, 11038, 13038, 14038] σ) (sg_F_m (L := [16, 29, 30, 32, 33, 34, 39, 40, 7028, 10038, 11038, 13038, 14038]) hF59 rfl)), w⟩
        refine wk_if2 tt_26 (tgt := 108) rfl rfl ra2 (by decide) (fun (h52 : ¬ a2 = 1) => ?_) (fun (h52 : a2 = 1) => ?_)
        ·
          clear w
          refine wk_b tt_26 1 (pc' := 110) (ls' := [(3, .inl ((sx_at σ 3 200 (a1)))), (0, .inr (.inr (.ref 38))), (1, .inl (a1)), (2, .inl (a2))]) (st' := [.inl (8), .inr (.inr (.ref 28))]) (σ' := σ) rfl ?_
          exact wk_ls [(1, .inl (a1))] rfl ⟨rfl, trivial⟩ (jn53 (8) (by simp only [if_pos h52]) (by decide))
        ·
          clear w
          refine wk_b tt_26 2 (pc' := 110) (ls' := [(3, .inl ((sx_at σ 3 200 (a1)))), (0, .inr (.inr (.ref 38))), (1, .inl (a1)), (2, .inl (a2))]) (st' := [.inl (7), .inr (.inr (.ref 28))]) (σ' := σ) rfl ?_
          exact wk_ls [(1, .inl (a1))] rfl ⟨rfl, trivial⟩ (jn53 (7) (by simp only [if_neg (show ¬ (¬ a2 = 1) by omega)]) (by decide))
  ·
    have w := w.2 h1
    refine wk_b tt_26 2 (pc' := 21) (ls' := [(3, .inl ((sx_at σ 3 200 (a1)))), (0, .inr (.inr (.ref 38))), (1, .inl (a1)), (2, .inl (a2))]) (st' := [.inl (1), .inl (a2)]) (σ' := σ) rfl ?_
    refine wk_if2 tt_26 (tgt := 83) rfl rfl ra2 (by decide) (fun (h63 : ¬ a2 = 1) => ?_) (fun (h63 : a2 = 1) => ?_)
    ·
      have w := w.1 h63
      refine wk_b tt_26 2 (pc' := 87) (ls' := [(3, .inl ((sx_at σ 3 200 (a1)))), (0, .inr (.inr (.ref 38))), (1, .inl (a1)), (2, .inl (a2))]) (st' := [.inl (264), .inl ((sx_at σ 3 200 (a1)))]) (σ' := σ) rfl ?_
      refine wk_if2 tt_26 (tgt := 117) rfl rfl (sx_R ..) (by decide) (fun (h64 : ¬ (sx_at σ 3 200 (a1)) = 264) => ?_) (fun (h64 : (sx_at σ 3 200 (a1)) = 264) => ?_)
      ·
        have w := w.1 h64
        refine wk_b tt_26 2 (pc' := 120) (ls' := [(3, .inl ((sx_at σ 3 200 (a1)))), (0, .inr (.inr (.ref 38))), (1, .inl (a1)), (2, .inl (a2))]) (st' := [.inl (123), .inl ((sx_at σ 3 200 (a1)))]) (σ' := σ) rfl ?_
        refine wk_if2 tt_26 (tgt := 146) rfl rfl (sx_R ..) (by decide) (fun (h65 : ¬ (sx_at σ 3 200 (a1)) = 123) => ?_) (fun (h65 : (sx_at σ 3 200 (a1)) = 123) => ?_)
        ·
          have w := w.1 h65
          refine wk_b tt_26 2 (pc' := 149) (ls' := [(3, .inl ((sx_at σ 3 200 (a1)))), (0, .inr (.inr (.ref 38))), (1, .inl (a1)), (2, .inl (a2))]) (st' := [.inl (123), .inl ((sx_at σ 3 200 (a1)))]) (σ' := σ) rfl ?_
          refine wk_if2 tt_26 (tgt := 177) rfl rfl (sx_R ..) (by decide) (fun (h66 : ¬ (sx_at σ 3 200 (a1)) = 123) => ?_) (fun (h66 : (sx_at σ 3 200 (a1)) = 123) => ?_)
          ·
            have w := w.1 h66
            exact wk_rV tt_26 rfl rfl ⟨rfl, (sg_F_r [16, 29, 30, 32, 33, 34, 39, 40, 7028, 10038, 11038, 13038, 14038] σ), w⟩
          ·
            have w := w.2 h66
            refine wk_b tt_26 5 (pc' := 161) (ls' := [(3, .inl ((sx_at σ 3 200 (a1)))), (0, .inr (.inr (.ref 38))), (1, .inl (a1)), (2, .inl (a2))]) (st' := [.inl (a1), .inr (.inr (.ref 13)), .inl (a2)]) (σ' := σ) rfl ?_
            refine wk_callp tt_26 rfl rfl rfl rfl rfl tt_5 rfl (by decide) (at_i0 z σ 13 200 (a1) rfl (by decide) ra1) ?_
            show wx z 3 26 164 [(3, .inl ((sx_at σ 3 200 (a1)))), (0, .inr (.inr (.ref 38))), (1, .inl (a1)), (2, .inl (a2))] [.inl ((sx_at σ 13 200 (a1))), .inl (a2)] σ (fun v σ' => v = none ∧ sg_F [16, 29, 30, 32, 33, 34, 39, 40, 7028, 10038, 11038, 13038, 14038] σ σ' ∧ Q σ')
            refine wk_if2 tt_26 (tgt := 177) rfl rfl ra2 (sx_R ..) (fun (h67 : a2 ≤ (sx_at σ 13 200 (a1))) => ?_) (fun (h67 : (sx_at σ 13 200 (a1)) < a2) => ?_)
            ·
              have w := w.1 h67
              exact wk_rV tt_26 rfl rfl ⟨rfl, (sg_F_r [16, 29, 30, 32, 33, 34, 39, 40, 7028, 10038, 11038, 13038, 14038] σ), w⟩
            ·
              have w := w.2 h67
              refine wk_b tt_26 4 (pc' := 174) (ls' := [(3, .inl ((sx_at σ 3 200 (a1)))), (0, .inr (.inr (.ref 38))), (1, .inl (a1)), (2, .inl (a2))]) (st' := [.inl (a1), .inl (11), .inr (.inr (.ref 28))]) (σ' := σ) rfl ?_
              refine wk_call tt_26 rfl rfl rfl rfl rfl tt_193 rfl (by decide) (w_kpAdd z σ (11) (a1) _ (by decide) ra1 w) (fun u73 σ69 hq71 => ?_)
              obtain ⟨rfl, hF70, w⟩ := hq71
              have w := w hF70
              exact wk_rV tt_26 rfl rfl ⟨rfl, (sg_F_t (sg_F_r [16, 29, 30, 32, 33, 34, 39, 40, 7028, 10038, 11038, 13038, 14038] σ) (sg_F_m (L := [16, 29, 30, 32, 33, 34, 39, 40, 7028, 10038, 11038, 13038, 14038]) hF70 rfl)), w⟩
        ·
          have w := w.2 h65
          refine wk_b tt_26 5 (pc' := 132) (ls' := [(3, .inl ((sx_at σ 3 200 (a1)))), (0, .inr (.inr (.ref 38))), (1, .inl (a1)), (2, .inl (a2))]) (st' := [.inl (a1), .inr (.inr (.ref 13)), .inl (a2)]) (σ' := σ) rfl ?_
          refine wk_callp tt_26 rfl rfl rfl rfl rfl tt_5 rfl (by decide) (at_i0 z σ 13 200 (a1) rfl (by decide) ra1) ?_
          show wx z 3 26 135 [(3, .inl ((sx_at σ 3 200 (a1)))), (0, .inr (.inr (.ref 38))), (1, .inl (a1)), (2, .inl (a2))] [.inl ((sx_at σ 13 200 (a1))), .inl (a2)] σ (fun v σ' => v = none ∧ sg_F [16, 29, 30, 32, 33, 34, 39, 40, 7028, 10038, 11038, 13038, 14038] σ σ' ∧ Q σ')
          refine wk_if2 tt_26 (tgt := 146) rfl rfl ra2 (sx_R ..) (fun (h74 : ¬ a2 = (sx_at σ 13 200 (a1))) => ?_) (fun (h74 : a2 = (sx_at σ 13 200 (a1))) => ?_)
          ·
            have w := w.1 h74
            refine wk_b tt_26 2 (pc' := 149) (ls' := [(3, .inl ((sx_at σ 3 200 (a1)))), (0, .inr (.inr (.ref 38))), (1, .inl (a1)), (2, .inl (a2))]) (st' := [.inl (123), .inl ((sx_at σ 3 200 (a1)))]) (σ' := σ) rfl ?_
            refine wk_if2 tt_26 (tgt := 177) rfl rfl (sx_R ..) (by decide) (fun (h75 : ¬ (sx_at σ 3 200 (a1)) = 123) => ?_) (fun (h75 : (sx_at σ 3 200 (a1)) = 123) => ?_)
            ·
              have w := w.1 h75
              exact wk_rV tt_26 rfl rfl ⟨rfl, (sg_F_r [16, 29, 30, 32, 33, 34, 39, 40, 7028, 10038, 11038, 13038, 14038] σ), w⟩
            ·
              have w := w.2 h75
              refine wk_b tt_26 5 (pc' := 161) (ls' := [(3, .inl ((sx_at σ 3 200 (a1)))), (0, .inr (.inr (.ref 38))), (1, .inl (a1)), (2, .inl (a2))]) (st' := [.inl (a1), .inr (.inr (.ref 13)), .inl (a2)]) (σ' := σ) rfl ?_
              refine wk_callp tt_26 rfl rfl rfl rfl rfl tt_5 rfl (by decide) (at_i0 z σ 13 200 (a1) rfl (by decide) ra1) ?_
              show wx z 3 26 164 [(3, .inl ((sx_at σ 3 200 (a1)))), (0, .inr (.inr (.ref 38))), (1, .inl (a1)), (2, .inl (a2))] [.inl ((sx_at σ 13 200 (a1))), .inl (a2)] σ (fun v σ' => v = none ∧ sg_F [16, 29, 30, 32, 33, 34, 39, 40, 7028, 10038, 11038, 13038, 14038] σ σ' ∧ Q σ')
              refine wk_if2 tt_26 (tgt := 177) rfl rfl ra2 (sx_R ..) (fun (h76 : a2 ≤ (sx_at σ 13 200 (a1))) => ?_) (fun (h76 : (sx_at σ 13 200 (a1)) < a2) => ?_)
              ·
                have w := w.1 h76
                exact wk_rV tt_26 rfl rfl ⟨rfl, (sg_F_r [16, 29, 30, 32, 33, 34, 39, 40, 7028, 10038, 11038, 13038, 14038] σ), w⟩
              ·
                have w := w.2 h76
                refine wk_b tt_26 4 (pc' := 174) (ls' := [(3, .inl ((sx_at σ 3 200 (a1)))), (0, .inr (.inr (.ref 38))), (1, .inl (a1)), (2, .inl (a2))]) (st' := [.inl (a1), .inl (11), .inr (.inr (.ref 28))]) (σ' := σ) rfl ?_
                refine wk_call tt_26 rfl rfl rfl rfl rfl tt_193 rfl (by decide) (w_kpAdd z σ (11) (a1) _ (by decide) ra1 w) (fun u82 σ78 hq80 => ?_)
                obtain ⟨rfl, hF79, w⟩ := hq80
                have w := w hF79
                exact wk_rV tt_26 rfl rfl ⟨rfl, (sg_F_t (sg_F_r [16, 29, 30, 32, 33, 34, 39, 40, 7028, 10038, 11038, 13038, 14038] σ) (sg_F_m (L := [16, 29, 30, 32, 33, 34, 39, 40, 7028, 10038, 11038, 13038, 14038]) hF79 rfl)), w⟩
          ·
            have w := w.2 h74
            refine wk_b tt_26 2 (pc' := 140) (ls' := [(3, .inl ((sx_at σ 3 200 (a1)))), (0, .inr (.inr (.ref 38))), (1, .inl (a1)), (2, .inl (a2))]) (st' := [.inl (a1), .inr (.inr (.ref 38))]) (σ' := σ) rfl ?_
            refine wk_call tt_26 rfl rfl rfl rfl rfl tt_41 rfl (by decide) (w_kOpen z σ (a1) _ ra1 w) (fun u88 σ84 hq86 => ?_)
            obtain ⟨rfl, hF85, w⟩ := hq86
            have w := w hF85
            refine wk_b tt_26 1 (pc' := 177) (ls' := [(3, .inl ((sx_at σ 3 200 (a1)))), (0, .inr (.inr (.ref 38))), (1, .inl (a1)), (2, .inl (a2))]) (st' := []) (σ' := σ84) rfl ?_
            exact wk_rV tt_26 rfl rfl ⟨rfl, (sg_F_t (sg_F_r [16, 29, 30, 32, 33, 34, 39, 40, 7028, 10038, 11038, 13038, 14038] σ) (sg_F_m (L := [16, 29, 30, 32, 33, 34, 39, 40, 7028, 10038, 11038, 13038, 14038]) hF85 rfl)), w⟩
      ·
        have w := w.2 h64
        refine wk_b tt_26 1 (pc' := 91) (ls' := [(3, .inl ((sx_at σ 3 200 (a1)))), (0, .inr (.inr (.ref 38))), (1, .inl (a1)), (2, .inl (a2))]) (st' := [.inl (a2)]) (σ' := σ) rfl ?_
        refine wk_if tt_26 (tgt := 117) rfl rfl ra2 (fun (h89 : a2 ≤ 0) => ?_) (fun (h89 : 0 < a2) => ?_)
        ·
          have w := w.1 h89
          refine wk_b tt_26 2 (pc' := 120) (ls' := [(3, .inl ((sx_at σ 3 200 (a1)))), (0, .inr (.inr (.ref 38))), (1, .inl (a1)), (2, .inl (a2))]) (st' := [.inl (123), .inl ((sx_at σ 3 200 (a1)))]) (σ' := σ) rfl ?_
          refine wk_if2 tt_26 (tgt := 146) rfl rfl (sx_R ..) (by decide) (fun (h90 : ¬ (sx_at σ 3 200 (a1)) = 123) => ?_) (fun (h90 : (sx_at σ 3 200 (a1)) = 123) => ?_)
          ·
            have w := w.1 h90
            refine wk_b tt_26 2 (pc' := 149) (ls' := [(3, .inl ((sx_at σ 3 200 (a1)))), (0, .inr (.inr (.ref 38))), (1, .inl (a1)), (2, .inl (a2))]) (st' := [.inl (123), .inl ((sx_at σ 3 200 (a1)))]) (σ' := σ) rfl ?_
            refine wk_if2 tt_26 (tgt := 177) rfl rfl (sx_R ..) (by decide) (fun (h91 : ¬ (sx_at σ 3 200 (a1)) = 123) => ?_) (fun (h91 : (sx_at σ 3 200 (a1)) = 123) => ?_)
            ·
              have w := w.1 h91
              exact wk_rV tt_26 rfl rfl ⟨rfl, (sg_F_r [16, 29, 30, 32, 33, 34, 39, 40, 7028, 10038, 11038, 13038, 14038] σ), w⟩
            ·
              have w := w.2 h91
              refine wk_b tt_26 5 (pc' := 161) (ls' := [(3, .inl ((sx_at σ 3 200 (a1)))), (0, .inr (.inr (.ref 38))), (1, .inl (a1)), (2, .inl (a2))]) (st' := [.inl (a1), .inr (.inr (.ref 13)), .inl (a2)]) (σ' := σ) rfl ?_
              refine wk_callp tt_26 rfl rfl rfl rfl rfl tt_5 rfl (by decide) (at_i0 z σ 13 200 (a1) rfl (by decide) ra1) ?_
              show wx z 3 26 164 [(3, .inl ((sx_at σ 3 200 (a1)))), (0, .inr (.inr (.ref 38))), (1, .inl (a1)), (2, .inl (a2))] [.inl ((sx_at σ 13 200 (a1))), .inl (a2)] σ (fun v σ' => v = none ∧ sg_F [16, 29, 30, 32, 33, 34, 39, 40, 7028, 10038, 11038, 13038, 14038] σ σ' ∧ Q σ')
              refine wk_if2 tt_26 (tgt := 177) rfl rfl ra2 (sx_R ..) (fun (h92 : a2 ≤ (sx_at σ 13 200 (a1))) => ?_) (fun (h92 : (sx_at σ 13 200 (a1)) < a2) => ?_)
              ·
                have w := w.1 h92
                exact wk_rV tt_26 rfl rfl ⟨rfl, (sg_F_r [16, 29, 30, 32, 33, 34, 39, 40, 7028, 10038, 11038, 13038, 14038] σ), w⟩
              ·
                have w := w.2 h92
                refine wk_b tt_26 4 (pc' := 174) (ls' := [(3, .inl ((sx_at σ 3 200 (a1)))), (0, .inr (.inr (.ref 38))), (1, .inl (a1)), (2, .inl (a2))]) (st' := [.inl (a1), .inl (11), .inr (.inr (.ref 28))]) (σ' := σ) rfl ?_
                refine wk_call tt_26 rfl rfl rfl rfl rfl tt_193 rfl (by decide) (w_kpAdd z σ (11) (a1) _ (by decide) ra1 w) (fun u98 σ94 hq96 => ?_)
                obtain ⟨rfl, hF95, w⟩ := hq96
                have w := w hF95
                exact wk_rV tt_26 rfl rfl ⟨rfl, (sg_F_t (sg_F_r [16, 29, 30, 32, 33, 34, 39, 40, 7028, 10038, 11038, 13038, 14038] σ) (sg_F_m (L := [16, 29, 30, 32, 33, 34, 39, 40, 7028, 10038, 11038, 13038, 14038]) hF95 rfl)), w⟩
          ·
            have w := w.2 h90
            refine wk_b tt_26 5 (pc' := 132) (ls' := [(3, .inl ((sx_at σ 3 200 (a1)))), (0, .inr (.inr (.ref 38))), (1, .inl (a1)), (2, .inl (a2))]) (st' := [.inl (a1), .inr (.inr (.ref 13)), .inl (a2)]) (σ' := σ) rfl ?_
            refine wk_callp tt_26 rfl rfl rfl rfl rfl tt_5 rfl (by decide) (at_i0 z σ 13 200 (a1) rfl (by decide) ra1) ?_
            show wx z 3 26 135 [(3, .inl ((sx_at σ 3 200 (a1)))), (0, .inr (.inr (.ref 38))), (1, .inl (a1)), (2, .inl (a2))] [.inl ((sx_at σ 13 200 (a1))), .inl (a2)] σ (fun v σ' => v = none ∧ sg_F [16, 29, 30, 32, 33, 34, 39, 40, 7028, 10038, 11038, 13038, 14038] σ σ' ∧ Q σ')
            refine wk_if2 tt_26 (tgt := 146) rfl rfl ra2 (sx_R ..) (fun (h99 : ¬ a2 = (sx_at σ 13 200 (a1))) => ?_) (fun (h99 : a2 = (sx_at σ 13 200 (a1))) => ?_)
            ·
              have w := w.1 h99
              refine wk_b tt_26 2 (pc' := 149) (ls' := [(3, .inl ((sx_at σ 3 200 (a1)))), (0, .inr (.inr (.ref 38))), (1, .inl (a1)), (2, .inl (a2))]) (st' := [.inl (123), .inl ((sx_at σ 3 200 (a1)))]) (σ' := σ) rfl ?_
              refine wk_if2 tt_26 (tgt := 177) rfl rfl (sx_R ..) (by decide) (fun (h100 : ¬ (sx_at σ 3 200 (a1)) = 123) => ?_) (fun (h100 : (sx_at σ 3 200 (a1)) = 123) => ?_)
              ·
                have w := w.1 h100
                exact wk_rV tt_26 rfl rfl ⟨rfl, (sg_F_r [16, 29, 30, 32, 33, 34, 39, 40, 7028, 10038, 11038, 13038, 14038] σ), w⟩
              ·
                have w := w.2 h100
                refine wk_b tt_26 5 (pc' := 161) (ls' := [(3, .inl ((sx_at σ 3 200 (a1)))), (0, .inr (.inr (.ref 38))), (1, .inl (a1)), (2, .inl (a2))]) (st' := [.inl (a1), .inr (.inr (.ref 13)), .inl (a2)]) (σ' := σ) rfl ?_
                refine wk_callp tt_26 rfl rfl rfl rfl rfl tt_5 rfl (by decide) (at_i0 z σ 13 200 (a1) rfl (by decide) ra1) ?_
                show wx z 3 26 164 [(3, .inl ((sx_at σ 3 200 (a1)))), (0, .inr (.inr (.ref 38))), (1, .inl (a1)), (2, .inl (a2))] [.inl ((sx_at σ 13 200 (a1))), .inl (a2)] σ (fun v σ' => v = none ∧ sg_F [16, 29, 30, 32, 33, 34, 39, 40, 7028, 10038, 11038, 13038, 14038] σ σ' ∧ Q σ')
                refine wk_if2 tt_26 (tgt := 177) rfl rfl ra2 (sx_R ..) (fun (h101 : a2 ≤ (sx_at σ 13 200 (a1))) => ?_) (fun (h101 : (sx_at σ 13 200 (a1)) < a2) => ?_)
                ·
                  have w := w.1 h101
                  exact wk_rV tt_26 rfl rfl ⟨rfl, (sg_F_r [16, 29, 30, 32, 33, 34, 39, 40, 7028, 10038, 11038, 13038, 14038] σ), w⟩
                ·
                  have w := w.2 h101
                  refine wk_b tt_26 4 (pc' := 174) (ls' := [(3, .inl ((sx_at σ 3 200 (a1)))), (0, .inr (.inr (.ref 38))), (1, .inl (a1)), (2, .inl (a2))]) (st' := [.inl (a1), .inl (11), .inr (.inr (.ref 28))]) (σ' := σ) rfl ?_
                  refine wk_call tt_26 rfl rfl rfl rfl rfl tt_193 rfl (by decide) (w_kpAdd z σ (11) (a1) _ (by decide) ra1 w) (fun u107 σ103 hq105 => ?_)
                  obtain ⟨rfl, hF104, w⟩ := hq105
                  have w := w hF104
                  exact wk_rV tt_26 rfl rfl ⟨rfl, (sg_F_t (sg_F_r [16, 29, 30, 32, 33, 34, 39, 40, 7028, 10038, 11038, 13038, 14038] σ) (sg_F_m (L := [16, 29, 30, 32, 33, 34, 39, 40, 7028, 10038, 11038, 13038, 14038]) hF104 rfl)), w⟩
            ·
              have w := w.2 h99
              refine wk_b tt_26 2 (pc' := 140) (ls' := [(3, .inl ((sx_at σ 3 200 (a1)))), (0, .inr (.inr (.ref 38))), (1, .inl (a1)), (2, .inl (a2))]) (st' := [.inl (a1), .inr (.inr (.ref 38))]) (σ' := σ) rfl ?_
              refine wk_call tt_26 rfl rfl rfl rfl rfl tt_41 rfl (by decide) (w_kOpen z σ (a1) _ ra1 w) (fun u113 σ109 hq111 => ?_)
              obtain ⟨rfl, hF110, w⟩ := hq111
              have w := w hF110
              refine wk_b tt_26 1 (pc' := 177) (ls' := [(3, .inl ((sx_at σ 3 200 (a1)))), (0, .inr (.inr (.ref 38))), (1, .inl (a1)), (2, .inl (a2))]) (st' := []) (σ' := σ109) rfl ?_
              exact wk_rV tt_26 rfl rfl ⟨rfl, (sg_F_t (sg_F_r [16, 29, 30, 32, 33, 34, 39, 40, 7028, 10038, 11038, 13038, 14038] σ) (sg_F_m (L := [16, 29, 30, 32, 33, 34, 39, 40, 7028, 10038, 11038, 13038, 14038]) hF110 rfl)), w⟩
        ·
          have w := w.2 h89
          refine wk_b tt_26 4 (pc' := 100) (ls' := [(3, .inl ((sx_at σ 3 200 (a1)))), (0, .inr (.inr (.ref 38))), (1, .inl (a1)), (2, .inl (a2))]) (st' := [.inl (1), .inl (a2), .inr (.inr (.ref 28))]) (σ' := σ) rfl ?_
          have jn115 : ∀ v116 : Int, v116 = (if ¬ a2 = 1 then (8 : Int) else (7 : Int)) → sg_R v116 → wx z 3 26 110 [(1, .inl (a1))] [.inl (v116), .inr (.inr (.ref 28))] σ (fun v σ' => v = none ∧ sg_F [16, 29, 30, 32, 33, 34, 39, 40, 7028, 10038, 11038, 13038, 14038] σ σ' ∧ Q σ') := by
            intro v116 e118 r117
            have w := w v116 e118 r117
            refine wk_b tt_26 1 (pc' := 111) (ls' := [(1, .inl (a1))]) (st' := [.inl (a1), .inl (v116), .inr (.inr (.ref 28))]) (σ' := σ) rfl ?_
            refine wk_call tt_26 rfl rfl rfl rfl rfl tt_193 rfl (by decide) (w_kpAdd z σ (v116) (a1) _ r117 ra1 w) (fun u124 σ120 hq122 => ?_)
            obtain ⟨rfl, hF121, w⟩ := hq122
            have w := w hF121
            refine wk_b tt_26 1 (pc' := 177) (ls' := [(1, .inl (a1))]) (st' := []) (σ' := σ120) rfl ?_
            exact wk_rV tt_26 rfl rfl ⟨rfl, (sg_F_t (sg_F_r [16, 29, 30, 32, 33, 34, 39, 40, 7028, 10038, 11038, 13038, 14038] σ) (sg_F_m (L := [16, 29, 30, 32, 33, 34, 39, 40, 7028, 10038, 11038, 13038, 14038]) hF121 rfl)), w⟩
          refine wk_if2 tt_26 (tgt := 108) rfl rfl ra2 (by decide) (fun (h114 : ¬ a2 = 1) => ?_) (fun (h114 : a2 = 1) => ?_)
          ·
            clear w
            refine wk_b tt_26 1 (pc' := 110) (ls' := [(3, .inl ((sx_at σ 3 200 (a1)))), (0, .inr (.inr (.ref 38))), (1, .inl (a1)), (2, .inl (a2))]) (st' := [.inl (8), .inr (.inr (.ref 28))]) (σ' := σ) rfl ?_
            exact wk_ls [(1, .inl (a1))] rfl ⟨rfl, trivial⟩ (jn115 (8) (by simp only [if_pos h114]) (by decide))
          ·
            clear w
            refine wk_b tt_26 2 (pc' := 110) (ls' := [(3, .inl ((sx_at σ 3 200 (a1)))), (0, .inr (.inr (.ref 38))), (1, .inl (a1)), (2, .inl (a2))]) (st' := [.inl (7), .inr (.inr (.ref 28))]) (σ' := σ) rfl ?_
            exact wk_ls [(1, .inl (a1))] rfl ⟨rfl, trivial⟩ (jn115 (7) (by simp only [if_neg (show ¬ (¬ a2 = 1) by omega)]) (by decide))
    ·
      have w := w.2 h63
      refine wk_b tt_26 9 (pc' := 41) (ls' := [(3, .inl ((sx_at σ 3 200 (a1)))), (0, .inr (.inr (.ref 38))), (1, .inl (a1)), (2, .inl (a2))]) (st' := [.inl (a1), .inr (.inr (.ref 17)), .inr (.inr (.ref 38)), .inl (a1), .inr (.inr (.ref 16))]) (σ' := σ) rfl ?_
      refine wk_callp tt_26 rfl rfl rfl rfl rfl tt_6 rfl (by decide) (at_l0 z σ 17 200 (a1) rfl (by decide) ra1) ?_
      show wx z 3 26 44 [(3, .inl ((sx_at σ 3 200 (a1)))), (0, .inr (.inr (.ref 38))), (1, .inl (a1)), (2, .inl (a2))] [.inr (.inl ((sx_atl σ 17 200 (a1)))), .inr (.inr (.ref 38)), .inl (a1), .inr (.inr (.ref 16))] σ (fun v σ' => v = none ∧ sg_F [16, 29, 30, 32, 33, 34, 39, 40, 7028, 10038, 11038, 13038, 14038] σ σ' ∧ Q σ')
      refine wk_b tt_26 7 (pc' := 59) (ls' := [(3, .inl ((sx_at σ 3 200 (a1)))), (0, .inr (.inr (.ref 38))), (1, .inl (a1)), (2, .inl (a2))]) (st' := [.inl (a1), .inr (.inr (.ref 7)), .inr (.inr (.ref 6)), .inr (.inl ((sx_atl σ 17 200 (a1)))), .inr (.inr (.ref 38)), .inl (a1), .inr (.inr (.ref 16))]) (σ' := σ) rfl ?_
      refine wk_callp tt_26 rfl rfl rfl rfl rfl tt_5 rfl (by decide) (at_i0 z σ 7 200 (a1) rfl (by decide) ra1) ?_
      show wx z 3 26 62 [(3, .inl ((sx_at σ 3 200 (a1)))), (0, .inr (.inr (.ref 38))), (1, .inl (a1)), (2, .inl (a2))] [.inl ((sx_at σ 7 200 (a1))), .inr (.inr (.ref 6)), .inr (.inl ((sx_atl σ 17 200 (a1)))), .inr (.inr (.ref 38)), .inl (a1), .inr (.inr (.ref 16))] σ (fun v σ' => v = none ∧ sg_F [16, 29, 30, 32, 33, 34, 39, 40, 7028, 10038, 11038, 13038, 14038] σ σ' ∧ Q σ')
      refine wk_callp tt_26 rfl rfl rfl rfl rfl tt_5 rfl (by decide) (at_i0 z σ 6 200 ((sx_at σ 7 200 (a1))) rfl (by decide) (sx_R ..)) ?_
      show wx z 3 26 65 [(3, .inl ((sx_at σ 3 200 (a1)))), (0, .inr (.inr (.ref 38))), (1, .inl (a1)), (2, .inl (a2))] [.inl ((sx_at σ 6 200 ((sx_at σ 7 200 (a1))))), .inr (.inl ((sx_atl σ 17 200 (a1)))), .inr (.inr (.ref 38)), .inl (a1), .inr (.inr (.ref 16))] σ (fun v σ' => v = none ∧ sg_F [16, 29, 30, 32, 33, 34, 39, 40, 7028, 10038, 11038, 13038, 14038] σ σ' ∧ Q σ')
      refine wk_call tt_26 rfl rfl rfl rfl rfl tt_27 rfl (by decide) (w_kBind z σ ((sx_atl σ 17 200 (a1))) ((sx_at σ 6 200 ((sx_at σ 7 200 (a1))))) _ (sx_Rl ..) (sx_R ..) w) (fun u130 σ126 hq128 => ?_)
      obtain ⟨q125, rfl, r129, hF127, w⟩ := hq128
      have w := w r129 hF127
      refine wk_callp tt_26 rfl rfl rfl rfl rfl tt_21 rfl (by decide) (pt_i0 z σ126 16 200 (a1) (q125) rfl (by decide) ra1) ?_
      show wx z 3 26 71 [(3, .inl ((sx_at σ 3 200 (a1)))), (0, .inr (.inr (.ref 38))), (1, .inl (a1)), (2, .inl (a2))] [] (sx_put σ126 16 200 (a1) (q125)) (fun v σ' => v = none ∧ sg_F [16, 29, 30, 32, 33, 34, 39, 40, 7028, 10038, 11038, 13038, 14038] σ σ' ∧ Q σ')
      generalize hs132 : (sx_put σ126 16 200 (a1) (q125)) = σ131
      have w := w σ131 hs132.symm
      have hF133 : sg_F [16] σ126 σ131 := by rw [← hs132]; exact sg_F_p (sg_F_r _ _) rfl _ _ _
      refine wk_b tt_26 4 (pc' := 77) (ls' := [(3, .inl ((sx_at σ 3 200 (a1)))), (0, .inr (.inr (.ref 38))), (1, .inl (a1)), (2, .inl (a2))]) (st' := [.inl (a1), .inl (4), .inr (.inr (.ref 28))]) (σ' := σ131) rfl ?_
      refine wk_call tt_26 rfl rfl rfl rfl rfl tt_193 rfl (by decide) (w_kpAdd z σ131 (4) (a1) _ (by decide) ra1 w) (fun u139 σ135 hq137 => ?_)
      obtain ⟨rfl, hF136, w⟩ := hq137
      have w := w hF136
      refine wk_b tt_26 1 (pc' := 177) (ls' := [(3, .inl ((sx_at σ 3 200 (a1)))), (0, .inr (.inr (.ref 38))), (1, .inl (a1)), (2, .inl (a2))]) (st' := []) (σ' := σ135) rfl ?_
      exact wk_rV tt_26 rfl rfl ⟨rfl, (sg_F_t (sg_F_t (sg_F_t (sg_F_r [16, 29, 30, 32, 33, 34, 39, 40, 7028, 10038, 11038, 13038, 14038] σ) (sg_F_m (L := [16, 29, 30, 32, 33, 34, 39, 40, 7028, 10038, 11038, 13038, 14038]) hF127 rfl)) (sg_F_m (L := [16, 29, 30, 32, 33, 34, 39, 40, 7028, 10038, 11038, 13038, 14038]) hF133 rfl)) (sg_F_m (L := [16, 29, 30, 32, 33, 34, 39, 40, 7028, 10038, 11038, 13038, 14038]) hF136 rfl)), w⟩
