/-! What the methods of Checker ask for (4). -/
-- NestedVectors$Checker.depthOf
def V_kDepthOf_264 (σ : sg_S) (b1 : Int) (Q : Int → sg_S → Prop) : Prop := Q ((v_kDepthOfChoice σ (b1))) σ
set_option maxHeartbeats 4000000 in
set_option maxRecDepth 8000 in
theorem w_kDepthOf_264 (z : Value) (σ : sg_S) (b1 : Int) (Q : Int → sg_S → Prop) (rb1 : sg_R b1) (w : V_kDepthOf_264 σ b1 Q) : wx z 2 32 114 [(0, .inr (.inr (.ref 38))), (1, .inl (b1))] [] σ (fun v σ' => ∃ q, v = some (.inl q) ∧ sg_R q ∧ σ = σ' ∧ Q q σ') := by
  unfold V_kDepthOf_264 at w
  refine wk_b tt_32 2 (pc' := 116) (ls' := [(0, .inr (.inr (.ref 38))), (1, .inl (b1))]) (st' := [.inl (b1), .inr (.inr (.ref 38))]) (σ' := σ) rfl ?_
  refine wk_callp tt_32 rfl rfl rfl rfl rfl tt_34 rfl (by decide) (w_kDepthOfChoice z σ (b1) rb1 ) ?_
  have r1 := vr_kDepthOfChoice σ  (b1) rb1 
  exact wk_rI tt_32 rfl rfl ⟨_, rfl, r1, rfl, w⟩
-- NestedVectors$Checker.depthOfRow
def V_kDepthOfRow (σ : sg_S) (a1 : Int) (Q : Int → sg_S → Prop) : Prop := (∃ (I5 : Nat → Int → Int → Prop) (X7 : Prop), (∃ n, I5 n ((sx_at σ 7 200 (a1))) (0)) ∧ (∀ (n16 : Nat) (v1 : Int) (v2 : Int), sg_R v1 → sg_R v2 → I5 n16 v1 v2 → (((sx_at σ 10 200 (a1)) ≤ v2 → X7 ) ∧ (v2 < (sx_at σ 10 200 (a1)) → ((200 ≤ v2 → X7 ) ∧ (v2 < 200 → (((sx_at σ 6 200 (v1)) = (sx_at σ 6 200 ((sx_at σ 7 200 (a1)))) → sg_R (v2 + 1) ∧ (∃ m, m < n16 ∧ I5 m ((sx_at σ 9 200 (v1))) ((v2 + 1)))) ∧ (¬ (sx_at σ 6 200 (v1)) = (sx_at σ 6 200 ((sx_at σ 7 200 (a1)))) → Q ((-1)) σ))))))) ∧ (X7  → sg_R ((sx_at σ 6 200 ((sx_at σ 7 200 (a1)))) + 1) ∧ Q (((sx_at σ 6 200 ((sx_at σ 7 200 (a1)))) + 1)) σ))
set_option maxHeartbeats 4000000 in
set_option maxRecDepth 8000 in
theorem w_kDepthOfRow (z : Value) (σ : sg_S) (a1 : Int) (Q : Int → sg_S → Prop) (ra1 : sg_R a1) (w : V_kDepthOfRow σ a1 Q) : wx z 1 37 0 [(0, .inr (.inr (.ref 38))), (1, .inl (a1))] [] σ (fun v σ' => ∃ q, v = some (.inl q) ∧ sg_R q ∧ σ = σ' ∧ Q q σ') := by
  unfold V_kDepthOfRow at w
  refine wk_b tt_37 7 (pc' := 15) (ls' := [(0, .inr (.inr (.ref 38))), (1, .inl (a1))]) (st' := [.inl (a1), .inr (.inr (.ref 7)), .inr (.inr (.ref 6))]) (σ' := σ) rfl ?_
  refine wk_callp tt_37 rfl rfl rfl rfl rfl tt_5 rfl (by decide) (at_i0 z σ 7 200 (a1) rfl (by decide) ra1) ?_
  show wx z 1 37 18 [(0, .inr (.inr (.ref 38))), (1, .inl (a1))] [.inl ((sx_at σ 7 200 (a1))), .inr (.inr (.ref 6))] σ (fun v σ' => ∃ q, v = some (.inl q) ∧ sg_R q ∧ σ = σ' ∧ Q q σ')
  refine wk_callp tt_37 rfl rfl rfl rfl rfl tt_5 rfl (by decide) (at_i0 z σ 6 200 ((sx_at σ 7 200 (a1))) rfl (by decide) (sx_R ..)) ?_
  show wx z 1 37 21 [(0, .inr (.inr (.ref 38))), (1, .inl (a1))] [.inl ((sx_at σ 6 200 ((sx_at σ 7 200 (a1)))))] σ (fun v σ' => ∃ q, v = some (.inl q) ∧ sg_R q ∧ σ = σ' ∧ Q q σ')
  refine wk_b tt_37 5 (pc' := 30) (ls' := [(2, .inl ((sx_at σ 6 200 ((sx_at σ 7 200 (a1)))))), (0, .inr (.inr (.ref 38))), (1, .inl (a1))]) (st' := [.inl (a1), .inr (.inr (.ref 7))]) (σ' := σ) rfl ?_
  refine wk_callp tt_37 rfl rfl rfl rfl rfl tt_5 rfl (by decide) (at_i0 z σ 7 200 (a1) rfl (by decide) ra1) ?_
  show wx z 1 37 33 [(2, .inl ((sx_at σ 6 200 ((sx_at σ 7 200 (a1)))))), (0, .inr (.inr (.ref 38))), (1, .inl (a1))] [.inl ((sx_at σ 7 200 (a1)))] σ (fun v σ' => ∃ q, v = some (.inl q) ∧ sg_R q ∧ σ = σ' ∧ Q q σ')
  refine wk_b tt_37 3 (pc' := 37) (ls' := [(4, .inl (0)), (3, .inl ((sx_at σ 7 200 (a1)))), (2, .inl ((sx_at σ 6 200 ((sx_at σ 7 200 (a1)))))), (0, .inr (.inr (.ref 38))), (1, .inl (a1))]) (st' := []) (σ' := σ) rfl ?_
  obtain ⟨I5, X7, ⟨μ6, w13⟩, w14, w15⟩ := w
  have ex17 : X7  → wx z 1 37 96 [(2, .inl ((sx_at σ 6 200 ((sx_at σ 7 200 (a1))))))] [] σ (fun v σ' => ∃ q, v = some (.inl q) ∧ sg_R q ∧ σ = σ' ∧ Q q σ') := by
    intro w
    have w := w15  w
    obtain ⟨c18, w⟩ := w
    refine wk_b tt_37 3 (pc' := 99) (ls' := [(2, .inl ((sx_at σ 6 200 ((sx_at σ 7 200 (a1))))))]) (st' := [.inl (((sx_at σ 6 200 ((sx_at σ 7 200 (a1)))) + 1))]) (σ' := σ) rfl ?_
    exact wk_rI tt_37 rfl rfl ⟨_, rfl, c18, rfl, w⟩
  have lp12 : ∀ (n16 : Nat) (v1 : Int) (v2 : Int), sg_R v1 → sg_R v2 → I5 n16 v1 v2 → wx z 1 37 37 [(0, .inr (.inr (.ref 38))), (1, .inl (a1)), (2, .inl ((sx_at σ 6 200 ((sx_at σ 7 200 (a1)))))), (3, .inl (v1)), (4, .inl (v2))] [] σ (fun v σ' => ∃ q, v = some (.inl q) ∧ sg_R q ∧ σ = σ' ∧ Q q σ') := by
    intro n16
    induction n16 using Nat.strongRecOn with
    | _ n16 ih10 =>
      intro v1 v2 r8 r9 w
      have w := w14 n16 v1 v2 r8 r9 w
      refine wk_b tt_37 5 (pc' := 47) (ls' := [(0, .inr (.inr (.ref 38))), (1, .inl (a1)), (2, .inl ((sx_at σ 6 200 ((sx_at σ 7 200 (a1)))))), (3, .inl (v1)), (4, .inl (v2))]) (st' := [.inl (a1), .inr (.inr (.ref 10)), .inl (v2)]) (σ' := σ) rfl ?_
      refine wk_callp tt_37 rfl rfl rfl rfl rfl tt_5 rfl (by decide) (at_i0 z σ 10 200 (a1) rfl (by decide) ra1) ?_
      show wx z 1 37 50 [(0, .inr (.inr (.ref 38))), (1, .inl (a1)), (2, .inl ((sx_at σ 6 200 ((sx_at σ 7 200 (a1)))))), (3, .inl (v1)), (4, .inl (v2))] [.inl ((sx_at σ 10 200 (a1))), .inl (v2)] σ (fun v σ' => ∃ q, v = some (.inl q) ∧ sg_R q ∧ σ = σ' ∧ Q q σ')
      refine wk_if2 tt_37 (tgt := 96) rfl rfl r9 (sx_R ..) (fun (h19 : (sx_at σ 10 200 (a1)) ≤ v2) => ?_) (fun (h19 : v2 < (sx_at σ 10 200 (a1))) => ?_)
      ·
        have w := w.1 h19
        exact wk_ls [(2, .inl ((sx_at σ 6 200 ((sx_at σ 7 200 (a1))))))] rfl ⟨rfl, trivial⟩ (ex17     w)
      ·
        have w := w.2 h19
        refine wk_b tt_37 2 (pc' := 58) (ls' := [(0, .inr (.inr (.ref 38))), (1, .inl (a1)), (2, .inl ((sx_at σ 6 200 ((sx_at σ 7 200 (a1)))))), (3, .inl (v1)), (4, .inl (v2))]) (st' := [.inl (200), .inl (v2)]) (σ' := σ) rfl ?_
        refine wk_if2 tt_37 (tgt := 96) rfl rfl r9 (by decide) (fun (h20 : 200 ≤ v2) => ?_) (fun (h20 : v2 < 200) => ?_)
        ·
          have w := w.1 h20
          exact wk_ls [(2, .inl ((sx_at σ 6 200 ((sx_at σ 7 200 (a1))))))] rfl ⟨rfl, trivial⟩ (ex17     w)
        ·
          have w := w.2 h20
          refine wk_b tt_37 4 (pc' := 69) (ls' := [(0, .inr (.inr (.ref 38))), (1, .inl (a1)), (2, .inl ((sx_at σ 6 200 ((sx_at σ 7 200 (a1)))))), (3, .inl (v1)), (4, .inl (v2))]) (st' := [.inl (v1), .inr (.inr (.ref 6))]) (σ' := σ) rfl ?_
          refine wk_callp tt_37 rfl rfl rfl rfl rfl tt_5 rfl (by decide) (at_i0 z σ 6 200 (v1) rfl (by decide) r8) ?_
          show wx z 1 37 72 [(0, .inr (.inr (.ref 38))), (1, .inl (a1)), (2, .inl ((sx_at σ 6 200 ((sx_at σ 7 200 (a1)))))), (3, .inl (v1)), (4, .inl (v2))] [.inl ((sx_at σ 6 200 (v1)))] σ (fun v σ' => ∃ q, v = some (.inl q) ∧ sg_R q ∧ σ = σ' ∧ Q q σ')
          refine wk_b tt_37 1 (pc' := 73) (ls' := [(0, .inr (.inr (.ref 38))), (1, .inl (a1)), (2, .inl ((sx_at σ 6 200 ((sx_at σ 7 200 (a1)))))), (3, .inl (v1)), (4, .inl (v2))]) (st' := [.inl ((sx_at σ 6 200 ((sx_at σ 7 200 (a1))))), .inl ((sx_at σ 6 200 (v1)))]) (σ' := σ) rfl ?_
          refine wk_if2 tt_37 (tgt := 78) rfl rfl (sx_R ..) (sx_R ..) (fun (h21 : (sx_at σ 6 200 (v1)) = (sx_at σ 6 200 ((sx_at σ 7 200 (a1))))) => ?_) (fun (h21 : ¬ (sx_at σ 6 200 (v1)) = (sx_at σ 6 200 ((sx_at σ 7 200 (a1))))) => ?_)
          ·
            have w := w.1 h21
            refine wk_b tt_37 4 (pc' := 86) (ls' := [(0, .inr (.inr (.ref 38))), (1, .inl (a1)), (2, .inl ((sx_at σ 6 200 ((sx_at σ 7 200 (a1)))))), (3, .inl (v1)), (4, .inl (v2))]) (st' := [.inl (v1), .inr (.inr (.ref 9))]) (σ' := σ) rfl ?_
            refine wk_callp tt_37 rfl rfl rfl rfl rfl tt_5 rfl (by decide) (at_i0 z σ 9 200 (v1) rfl (by decide) r8) ?_
            show wx z 1 37 89 [(0, .inr (.inr (.ref 38))), (1, .inl (a1)), (2, .inl ((sx_at σ 6 200 ((sx_at σ 7 200 (a1)))))), (3, .inl (v1)), (4, .inl (v2))] [.inl ((sx_at σ 9 200 (v1)))] σ (fun v σ' => ∃ q, v = some (.inl q) ∧ sg_R q ∧ σ = σ' ∧ Q q σ')
            obtain ⟨c22, w⟩ := w
            refine wk_b tt_37 3 (pc' := 37) (ls' := [(4, .inl ((v2 + 1))), (3, .inl ((sx_at σ 9 200 (v1)))), (0, .inr (.inr (.ref 38))), (1, .inl (a1)), (2, .inl ((sx_at σ 6 200 ((sx_at σ 7 200 (a1))))))]) (st' := []) (σ' := σ) rfl ?_
            obtain ⟨m23, hm23, w⟩ := w
            exact wk_ls [(0, .inr (.inr (.ref 38))), (1, .inl (a1)), (2, .inl ((sx_at σ 6 200 ((sx_at σ 7 200 (a1)))))), (3, .inl ((sx_at σ 9 200 (v1)))), (4, .inl ((v2 + 1)))] rfl ⟨rfl, rfl, rfl, rfl, rfl, trivial⟩ (ih10 m23 hm23 ((sx_at σ 9 200 (v1))) ((v2 + 1))  (sx_R ..) c22  w)
          ·
            have w := w.2 h21
            refine wk_b tt_37 1 (pc' := 77) (ls' := [(0, .inr (.inr (.ref 38))), (1, .inl (a1)), (2, .inl ((sx_at σ 6 200 ((sx_at σ 7 200 (a1)))))), (3, .inl (v1)), (4, .inl (v2))]) (st' := [.inl ((-1))]) (σ' := σ) rfl ?_
            exact wk_rI tt_37 rfl rfl ⟨_, rfl, (by decide), rfl, w⟩
  exact wk_ls [(0, .inr (.inr (.ref 38))), (1, .inl (a1)), (2, .inl ((sx_at σ 6 200 ((sx_at σ 7 200 (a1)))))), (3, .inl ((sx_at σ 7 200 (a1)))), (4, .inl (0))] rfl ⟨rfl, rfl, rfl, rfl, rfl, trivial⟩ (lp12 μ6 ((sx_at σ 7 200 (a1))) (0)  (sx_R ..) (by decide)  w13)
-- NestedVectors$Checker.depthOf
def V_kDepthOf_279 (σ : sg_S) (b1 : Int) (Q : Int → sg_S → Prop) : Prop := V_kDepthOfRow σ (b1) (fun q1 _ => sg_R q1 → Q (q1) σ)
set_option maxHeartbeats 4000000 in
set_option maxRecDepth 8000 in
theorem w_kDepthOf_279 (z : Value) (σ : sg_S) (b1 : Int) (Q : Int → sg_S → Prop) (rb1 : sg_R b1) (w : V_kDepthOf_279 σ b1 Q) : wx z 2 32 120 [(0, .inr (.inr (.ref 38))), (1, .inl (b1))] [] σ (fun v σ' => ∃ q, v = some (.inl q) ∧ sg_R q ∧ σ = σ' ∧ Q q σ') := by
  unfold V_kDepthOf_279 at w
  refine wk_b tt_32 2 (pc' := 122) (ls' := [(0, .inr (.inr (.ref 38))), (1, .inl (b1))]) (st' := [.inl (b1), .inr (.inr (.ref 38))]) (σ' := σ) rfl ?_
  refine wk_call tt_32 rfl rfl rfl rfl rfl tt_37 rfl (by decide) (w_kDepthOfRow z σ (b1) _ rb1 w) (fun u6 σ2 hq4 => ?_)
  obtain ⟨q1, rfl, r5, rfl, w⟩ := hq4
  have w := w r5
  exact wk_rI tt_32 rfl rfl ⟨_, rfl, r5, rfl, w⟩
-- NestedVectors$Checker.depthOfCall
def V_kDepthOfCall (σ : sg_S) (a1 : Int) (Q : Int → sg_S → Prop) : Prop := (((sx_at σ 10 200 (a1)) = (sx_at σ 23 12 ((sx_at σ 16 200 (a1)))) → (∃ (I6 : Nat → Int → Int → Prop) (X8 : Prop), (∃ n, I6 n ((sx_at σ 7 200 (a1))) (0)) ∧ (∀ (n17 : Nat) (v2 : Int) (v3 : Int), sg_R v2 → sg_R v3 → I6 n17 v2 v3 → (((sx_at σ 23 12 ((sx_at σ 16 200 (a1)))) ≤ v3 → X8 ) ∧ (v3 < (sx_at σ 23 12 ((sx_at σ 16 200 (a1)))) → ((6 ≤ v3 → X8 ) ∧ (v3 < 6 → sg_R ((sx_at σ 16 200 (a1)) * 6) ∧ sg_R (((sx_at σ 16 200 (a1)) * 6) + v3) ∧ (((sx_at σ 6 200 (v2)) = (sx_at σ 27 72 ((((sx_at σ 16 200 (a1)) * 6) + v3))) → sg_R (v3 + 1) ∧ (∃ m, m < n17 ∧ I6 m ((sx_at σ 9 200 (v2))) ((v3 + 1)))) ∧ (¬ (sx_at σ 6 200 (v2)) = (sx_at σ 27 72 ((((sx_at σ 16 200 (a1)) * 6) + v3))) → Q ((-1)) σ))))))) ∧ (X8  → Q ((sx_at σ 6 200 ((sx_at σ 22 12 ((sx_at σ 16 200 (a1))))))) σ))) ∧ (¬ (sx_at σ 10 200 (a1)) = (sx_at σ 23 12 ((sx_at σ 16 200 (a1)))) → Q ((-1)) σ))
set_option maxHeartbeats 4000000 in
set_option maxRecDepth 8000 in
theorem w_kDepthOfCall (z : Value) (σ : sg_S) (a1 : Int) (Q : Int → sg_S → Prop) (ra1 : sg_R a1) (w : V_kDepthOfCall σ a1 Q) : wx z 1 33 0 [(0, .inr (.inr (.ref 38))), (1, .inl (a1))] [] σ (fun v σ' => ∃ q, v = some (.inl q) ∧ sg_R q ∧ σ = σ' ∧ Q q σ') := by
  unfold V_kDepthOfCall at w
  refine wk_b tt_33 4 (pc' := 8) (ls' := [(0, .inr (.inr (.ref 38))), (1, .inl (a1))]) (st' := [.inl (a1), .inr (.inr (.ref 16))]) (σ' := σ) rfl ?_
  refine wk_callp tt_33 rfl rfl rfl rfl rfl tt_5 rfl (by decide) (at_i0 z σ 16 200 (a1) rfl (by decide) ra1) ?_
  show wx z 1 33 11 [(0, .inr (.inr (.ref 38))), (1, .inl (a1))] [.inl ((sx_at σ 16 200 (a1)))] σ (fun v σ' => ∃ q, v = some (.inl q) ∧ sg_R q ∧ σ = σ' ∧ Q q σ')
  refine wk_b tt_33 5 (pc' := 20) (ls' := [(2, .inl ((sx_at σ 16 200 (a1)))), (0, .inr (.inr (.ref 38))), (1, .inl (a1))]) (st' := [.inl (a1), .inr (.inr (.ref 10))]) (σ' := σ) rfl ?_
  refine wk_callp tt_33 rfl rfl rfl rfl rfl tt_5 rfl (by decide) (at_i0 z σ 10 200 (a1) rfl (by decide) ra1) ?_
  show wx z 1 33 23 [(2, .inl ((sx_at σ 16 200 (a1)))), (0, .inr (.inr (.ref 38))), (1, .inl (a1))] [.inl ((sx_at σ 10 200 (a1)))] σ (fun v σ' => ∃ q, v = some (.inl q) ∧ sg_R q ∧ σ = σ' ∧ Q q σ')
  refine wk_b tt_33 4 (pc' := 31) (ls' := [(2, .inl ((sx_at σ 16 200 (a1)))), (0, .inr (.inr (.ref 38))), (1, .inl (a1))]) (st' := [.inl ((sx_at σ 16 200 (a1))), .inr (.inr (.ref 23)), .inl ((sx_at σ 10 200 (a1)))]) (σ' := σ) rfl ?_
  refine wk_callp tt_33 rfl rfl rfl rfl rfl tt_5 rfl (by decide) (at_i0 z σ 23 12 ((sx_at σ 16 200 (a1))) rfl (by decide) (sx_R ..)) ?_
  show wx z 1 33 34 [(2, .inl ((sx_at σ 16 200 (a1)))), (0, .inr (.inr (.ref 38))), (1, .inl (a1))] [.inl ((sx_at σ 23 12 ((sx_at σ 16 200 (a1))))), .inl ((sx_at σ 10 200 (a1)))] σ (fun v σ' => ∃ q, v = some (.inl q) ∧ sg_R q ∧ σ = σ' ∧ Q q σ')
  refine wk_if2 tt_33 (tgt := 39) rfl rfl (sx_R ..) (sx_R ..) (fun (h1 : (sx_at σ 10 200 (a1)) = (sx_at σ 23 12 ((sx_at σ 16 200 (a1))))) => ?_) (fun (h1 : ¬ (sx_at σ 10 200 (a1)) = (sx_at σ 23 12 ((sx_at σ 16 200 (a1))))) => ?_)
  ·
    have w := w.1 h1
    refine wk_b tt_33 4 (pc' := 47) (ls' := [(2, .inl ((sx_at σ 16 200 (a1)))), (0, .inr (.inr (.ref 38))), (1, .inl (a1))]) (st' := [.inl (a1), .inr (.inr (.ref 7))]) (σ' := σ) rfl ?_
    refine wk_callp tt_33 rfl rfl rfl rfl rfl tt_5 rfl (by decide) (at_i0 z σ 7 200 (a1) rfl (by decide) ra1) ?_
    show wx z 1 33 50 [(2, .inl ((sx_at σ 16 200 (a1)))), (0, .inr (.inr (.ref 38))), (1, .inl (a1))] [.inl ((sx_at σ 7 200 (a1)))] σ (fun v σ' => ∃ q, v = some (.inl q) ∧ sg_R q ∧ σ = σ' ∧ Q q σ')
    refine wk_b tt_33 3 (pc' := 54) (ls' := [(4, .inl (0)), (3, .inl ((sx_at σ 7 200 (a1)))), (2, .inl ((sx_at σ 16 200 (a1)))), (0, .inr (.inr (.ref 38))), (1, .inl (a1))]) (st' := []) (σ' := σ) rfl ?_
    obtain ⟨I6, X8, ⟨μ7, w14⟩, w15, w16⟩ := w
    have ex18 : X8  → wx z 1 33 128 [(0, .inr (.inr (.ref 38))), (2, .inl ((sx_at σ 16 200 (a1))))] [] σ (fun v σ' => ∃ q, v = some (.inl q) ∧ sg_R q ∧ σ = σ' ∧ Q q σ') := by
      intro w
      have w := w16  w
      refine wk_b tt_33 7 (pc' := 143) (ls' := [(0, .inr (.inr (.ref 38))), (2, .inl ((sx_at σ 16 200 (a1))))]) (st' := [.inl ((sx_at σ 16 200 (a1))), .inr (.inr (.ref 22)), .inr (.inr (.ref 6))]) (σ' := σ) rfl ?_
      refine wk_callp tt_33 rfl rfl rfl rfl rfl tt_5 rfl (by decide) (at_i0 z σ 22 12 ((sx_at σ 16 200 (a1))) rfl (by decide) (sx_R ..)) ?_
      show wx z 1 33 146 [(0, .inr (.inr (.ref 38))), (2, .inl ((sx_at σ 16 200 (a1))))] [.inl ((sx_at σ 22 12 ((sx_at σ 16 200 (a1))))), .inr (.inr (.ref 6))] σ (fun v σ' => ∃ q, v = some (.inl q) ∧ sg_R q ∧ σ = σ' ∧ Q q σ')
      refine wk_callp tt_33 rfl rfl rfl rfl rfl tt_5 rfl (by decide) (at_i0 z σ 6 200 ((sx_at σ 22 12 ((sx_at σ 16 200 (a1))))) rfl (by decide) (sx_R ..)) ?_
      show wx z 1 33 149 [(0, .inr (.inr (.ref 38))), (2, .inl ((sx_at σ 16 200 (a1))))] [.inl ((sx_at σ 6 200 ((sx_at σ 22 12 ((sx_at σ 16 200 (a1)))))))] σ (fun v σ' => ∃ q, v = some (.inl q) ∧ sg_R q ∧ σ = σ' ∧ Q q σ')
      exact wk_rI tt_33 rfl rfl ⟨_, rfl, (sx_R ..), rfl, w⟩
    have lp13 : ∀ (n17 : Nat) (v2 : Int) (v3 : Int), sg_R v2 → sg_R v3 → I6 n17 v2 v3 → wx z 1 33 54 [(0, .inr (.inr (.ref 38))), (2, .inl ((sx_at σ 16 200 (a1)))), (3, .inl (v2)), (4, .inl (v3))] [] σ (fun v σ' => ∃ q, v = some (.inl q) ∧ sg_R q ∧ σ = σ' ∧ Q q σ') := by
      intro n17
      induction n17 using Nat.strongRecOn with
      | _ n17 ih11 =>
        intro v2 v3 r9 r10 w
        have w := w15 n17 v2 v3 r9 r10 w
        refine wk_b tt_33 5 (pc' := 64) (ls' := [(0, .inr (.inr (.ref 38))), (2, .inl ((sx_at σ 16 200 (a1)))), (3, .inl (v2)), (4, .inl (v3))]) (st' := [.inl ((sx_at σ 16 200 (a1))), .inr (.inr (.ref 23)), .inl (v3)]) (σ' := σ) rfl ?_
        refine wk_callp tt_33 rfl rfl rfl rfl rfl tt_5 rfl (by decide) (at_i0 z σ 23 12 ((sx_at σ 16 200 (a1))) rfl (by decide) (sx_R ..)) ?_
        show wx z 1 33 67 [(0, .inr (.inr (.ref 38))), (2, .inl ((sx_at σ 16 200 (a1)))), (3, .inl (v2)), (4, .inl (v3))] [.inl ((sx_at σ 23 12 ((sx_at σ 16 200 (a1))))), .inl (v3)] σ (fun v σ' => ∃ q, v = some (.inl q) ∧ sg_R q ∧ σ = σ' ∧ Q q σ')
        refine wk_if2 tt_33 (tgt := 128) rfl rfl r10 (sx_R ..) (fun (h19 : (sx_at σ 23 12 ((sx_at σ 16 200 (a1)))) ≤ v3) => ?_) (fun (h19 : v3 < (sx_at σ 23 12 ((sx_at σ 16 200 (a1))))) => ?_)
        ·
          have w := w.1 h19
          exact wk_ls [(0, .inr (.inr (.ref 38))), (2, .inl ((sx_at σ 16 200 (a1))))] rfl ⟨rfl, rfl, trivial⟩ (ex18     w)
        ·
          have w := w.2 h19
          refine wk_b tt_33 2 (pc' := 74) (ls' := [(0, .inr (.inr (.ref 38))), (2, .inl ((sx_at σ 16 200 (a1)))), (3, .inl (v2)), (4, .inl (v3))]) (st' := [.inl (6), .inl (v3)]) (σ' := σ) rfl ?_
          refine wk_if2 tt_33 (tgt := 128) rfl rfl r10 (by decide) (fun (h20 : 6 ≤ v3) => ?_) (fun (h20 : v3 < 6) => ?_)
          ·
            have w := w.1 h20
            exact wk_ls [(0, .inr (.inr (.ref 38))), (2, .inl ((sx_at σ 16 200 (a1))))] rfl ⟨rfl, rfl, trivial⟩ (ex18     w)
          ·
            have w := w.2 h20
            refine wk_b tt_33 4 (pc' := 85) (ls' := [(0, .inr (.inr (.ref 38))), (2, .inl ((sx_at σ 16 200 (a1)))), (3, .inl (v2)), (4, .inl (v3))]) (st' := [.inl (v2), .inr (.inr (.ref 6))]) (σ' := σ) rfl ?_
            refine wk_callp tt_33 rfl rfl rfl rfl rfl tt_5 rfl (by decide) (at_i0 z σ 6 200 (v2) rfl (by decide) r9) ?_
            show wx z 1 33 88 [(0, .inr (.inr (.ref 38))), (2, .inl ((sx_at σ 16 200 (a1)))), (3, .inl (v2)), (4, .inl (v3))] [.inl ((sx_at σ 6 200 (v2)))] σ (fun v σ' => ∃ q, v = some (.inl q) ∧ sg_R q ∧ σ = σ' ∧ Q q σ')
            obtain ⟨c21, w⟩ := w
            obtain ⟨c22, w⟩ := w
            refine wk_b tt_33 8 (pc' := 102) (ls' := [(0, .inr (.inr (.ref 38))), (2, .inl ((sx_at σ 16 200 (a1)))), (3, .inl (v2)), (4, .inl (v3))]) (st' := [.inl ((((sx_at σ 16 200 (a1)) * 6) + v3)), .inr (.inr (.ref 27)), .inl ((sx_at σ 6 200 (v2)))]) (σ' := σ) rfl ?_
            refine wk_callp tt_33 rfl rfl rfl rfl rfl tt_5 rfl (by decide) (at_i0 z σ 27 72 ((((sx_at σ 16 200 (a1)) * 6) + v3)) rfl (by decide) c22) ?_
            show wx z 1 33 105 [(0, .inr (.inr (.ref 38))), (2, .inl ((sx_at σ 16 200 (a1)))), (3, .inl (v2)), (4, .inl (v3))] [.inl ((sx_at σ 27 72 ((((sx_at σ 16 200 (a1)) * 6) + v3)))), .inl ((sx_at σ 6 200 (v2)))] σ (fun v σ' => ∃ q, v = some (.inl q) ∧ sg_R q ∧ σ = σ' ∧ Q q σ')
            refine wk_if2 tt_33 (tgt := 110) rfl rfl (sx_R ..) (sx_R ..) (fun (h23 : (sx_at σ 6 200 (v2)) = (sx_at σ 27 72 ((((sx_at σ 16 200 (a1)) * 6) + v3)))) => ?_) (fun (h23 : ¬ (sx_at σ 6 200 (v2)) = (sx_at σ 27 72 ((((sx_at σ 16 200 (a1)) * 6) + v3)))) => ?_)
            ·
              have w := w.1 h23
              refine wk_b tt_33 4 (pc' := 118) (ls' := [(0, .inr (.inr (.ref 38))), (2, .inl ((sx_at σ 16 200 (a1)))), (3, .inl (v2)), (4, .inl (v3))]) (st' := [.inl (v2), .inr (.inr (.ref 9))]) (σ' := σ) rfl ?_
              refine wk_callp tt_33 rfl rfl rfl rfl rfl tt_5 rfl (by decide) (at_i0 z σ 9 200 (v2) rfl (by decide) r9) ?_
              show wx z 1 33 121 [(0, .inr (.inr (.ref 38))), (2, .inl ((sx_at σ 16 200 (a1)))), (3, .inl (v2)), (4, .inl (v3))] [.inl ((sx_at σ 9 200 (v2)))] σ (fun v σ' => ∃ q, v = some (.inl q) ∧ sg_R q ∧ σ = σ' ∧ Q q σ')
              obtain ⟨c24, w⟩ := w
              refine wk_b tt_33 3 (pc' := 54) (ls' := [(4, .inl ((v3 + 1))), (3, .inl ((sx_at σ 9 200 (v2)))), (0, .inr (.inr (.ref 38))), (2, .inl ((sx_at σ 16 200 (a1))))]) (st' := []) (σ' := σ) rfl ?_
              obtain ⟨m25, hm25, w⟩ := w
              exact wk_ls [(0, .inr (.inr (.ref 38))), (2, .inl ((sx_at σ 16 200 (a1)))), (3, .inl ((sx_at σ 9 200 (v2)))), (4, .inl ((v3 + 1)))] rfl ⟨rfl, rfl, rfl, rfl, trivial⟩ (ih11 m25 hm25 ((sx_at σ 9 200 (v2))) ((v3 + 1))  (sx_R ..) c24  w)
            ·
              have w := w.2 h23
              refine wk_b tt_33 1 (pc' := 109) (ls' := [(0, .inr (.inr (.ref 38))), (2, .inl ((sx_at σ 16 200 (a1)))), (3, .inl (v2)), (4, .inl (v3))]) (st' := [.inl ((-1))]) (σ' := σ) rfl ?_
              exact wk_rI tt_33 rfl rfl ⟨_, rfl, (by decide), rfl, w⟩
    exact wk_ls [(0, .inr (.inr (.ref 38))), (2, .inl ((sx_at σ 16 200 (a1)))), (3, .inl ((sx_at σ 7 200 (a1)))), (4, .inl (0))] rfl ⟨rfl, rfl, rfl, rfl, trivial⟩ (lp13 μ7 ((sx_at σ 7 200 (a1))) (0)  (sx_R ..) (by decide)  w14)
  ·
    have w := w.2 h1
    refine wk_b tt_33 1 (pc' := 38) (ls' := [(2, .inl ((sx_at σ 16 200 (a1)))), (0, .inr (.inr (.ref 38))), (1, .inl (a1))]) (st' := [.inl ((-1))]) (σ' := σ) rfl ?_
    exact wk_rI tt_33 rfl rfl ⟨_, rfl, (by decide), rfl, w⟩
-- NestedVectors$Checker.depthOf
def V_kDepthOf_280 (σ : sg_S) (b1 : Int) (Q : Int → sg_S → Prop) : Prop := V_kDepthOfCall σ (b1) (fun q1 _ => sg_R q1 → Q (q1) σ)
set_option maxHeartbeats 4000000 in
set_option maxRecDepth 8000 in
theorem w_kDepthOf_280 (z : Value) (σ : sg_S) (b1 : Int) (Q : Int → sg_S → Prop) (rb1 : sg_R b1) (w : V_kDepthOf_280 σ b1 Q) : wx z 2 32 132 [(0, .inr (.inr (.ref 38))), (1, .inl (b1))] [] σ (fun v σ' => ∃ q, v = some (.inl q) ∧ sg_R q ∧ σ = σ' ∧ Q q σ') := by
  unfold V_kDepthOf_280 at w
  refine wk_b tt_32 2 (pc' := 134) (ls' := [(0, .inr (.inr (.ref 38))), (1, .inl (b1))]) (st' := [.inl (b1), .inr (.inr (.ref 38))]) (σ' := σ) rfl ?_
  refine wk_call tt_32 rfl rfl rfl rfl rfl tt_33 rfl (by decide) (w_kDepthOfCall z σ (b1) _ rb1 w) (fun u6 σ2 hq4 => ?_)
  obtain ⟨q1, rfl, r5, rfl, w⟩ := hq4
  have w := w r5
  exact wk_rI tt_32 rfl rfl ⟨_, rfl, r5, rfl, w⟩
-- NestedVectors$Checker.partsOf
def v_kPartsOf  (a0 : Int) : Int := (if a0 = 35 then (1 : Int) else (if a0 = 267 then (1 : Int) else (if a0 = 269 then (1 : Int) else (if a0 = 270 then (1 : Int) else (if a0 = 271 then (1 : Int) else (if a0 = 272 then (1 : Int) else (if a0 = 273 then (1 : Int) else (if ¬ a0 = 275 then (2 : Int) else (1 : Int)))))))))
set_option maxHeartbeats 4000000 in
set_option maxRecDepth 8000 in
theorem w_kPartsOf (z : Value) (σ : sg_S) (a0 : Int) (ra0 : sg_R a0) : wx z 0 42 0 [(0, .inl (a0))] [] σ (fun v σ' => v = some (.inl (v_kPartsOf a0)) ∧ σ' = σ) := by
  refine wk_b tt_42 2 (pc' := 3) (ls' := [(0, .inl (a0))]) (st' := [.inl (35), .inl (a0)]) (σ' := σ) rfl ?_
  refine wk_if2 tt_42 (tgt := 55) rfl rfl ra0 (by decide) (fun (h1 : a0 = 35) => ?_) (fun (h1 : ¬ a0 = 35) => ?_)
  ·
    refine wk_b tt_42 4 (pc' := 62) (ls' := [(1, .inl (1)), (0, .inl (a0))]) (st' := [.inl (1)]) (σ' := σ) rfl ?_
    refine wk_if tt_42 (tgt := 69) rfl rfl (by decide) (fun (h : 1 = 0) => absurd h (by decide)) (fun _ => ?_)
    refine wk_b tt_42 2 (pc' := 70) (ls' := [(1, .inl (1)), (0, .inl (a0))]) (st' := [.inl (1)]) (σ' := σ) rfl ?_
    exact wk_rI tt_42 rfl rfl ⟨by rw [v_kPartsOf, if_pos h1], rfl⟩
  ·
    refine wk_b tt_42 2 (pc' := 10) (ls' := [(0, .inl (a0))]) (st' := [.inl (267), .inl (a0)]) (σ' := σ) rfl ?_
    refine wk_if2 tt_42 (tgt := 55) rfl rfl ra0 (by decide) (fun (h2 : a0 = 267) => ?_) (fun (h2 : ¬ a0 = 267) => ?_)
    ·
      refine wk_b tt_42 4 (pc' := 62) (ls' := [(1, .inl (1)), (0, .inl (a0))]) (st' := [.inl (1)]) (σ' := σ) rfl ?_
      refine wk_if tt_42 (tgt := 69) rfl rfl (by decide) (fun (h : 1 = 0) => absurd h (by decide)) (fun _ => ?_)
      refine wk_b tt_42 2 (pc' := 70) (ls' := [(1, .inl (1)), (0, .inl (a0))]) (st' := [.inl (1)]) (σ' := σ) rfl ?_
      exact wk_rI tt_42 rfl rfl ⟨by rw [v_kPartsOf, if_neg (show ¬ (a0 = 35) by omega), if_pos h2], rfl⟩
    ·
      refine wk_b tt_42 2 (pc' := 17) (ls' := [(0, .inl (a0))]) (st' := [.inl (269), .inl (a0)]) (σ' := σ) rfl ?_
      refine wk_if2 tt_42 (tgt := 55) rfl rfl ra0 (by decide) (fun (h3 : a0 = 269) => ?_) (fun (h3 : ¬ a0 = 269) => ?_)
      ·
        refine wk_b tt_42 4 (pc' := 62) (ls' := [(1, .inl (1)), (0, .inl (a0))]) (st' := [.inl (1)]) (σ' := σ) rfl ?_
        refine wk_if tt_42 (tgt := 69) rfl rfl (by decide) (fun (h : 1 = 0) => absurd h (by decide)) (fun _ => ?_)
        refine wk_b tt_42 2 (pc' := 70) (ls' := [(1, .inl (1)), (0, .inl (a0))]) (st' := [.inl (1)]) (σ' := σ) rfl ?_
        exact wk_rI tt_42 rfl rfl ⟨by rw [v_kPartsOf, if_neg (show ¬ (a0 = 35) by omega), if_neg (show ¬ (a0 = 267) by omega), if_pos h3], rfl⟩
      ·
        refine wk_b tt_42 2 (pc' := 24) (ls' := [(0, .inl (a0))]) (st' := [.inl (270), .inl (a0)]) (σ' := σ) rfl ?_
        refine wk_if2 tt_42 (tgt := 55) rfl rfl ra0 (by decide) (fun (h4 : a0 = 270) => ?_) (fun (h4 : ¬ a0 = 270) => ?_)
        ·
          refine wk_b tt_42 4 (pc' := 62) (ls' := [(1, .inl (1)), (0, .inl (a0))]) (st' := [.inl (1)]) (σ' := σ) rfl ?_
          refine wk_if tt_42 (tgt := 69) rfl rfl (by decide) (fun (h : 1 = 0) => absurd h (by decide)) (fun _ => ?_)
          refine wk_b tt_42 2 (pc' := 70) (ls' := [(1, .inl (1)), (0, .inl (a0))]) (st' := [.inl (1)]) (σ' := σ) rfl ?_
          exact wk_rI tt_42 rfl rfl ⟨by rw [v_kPartsOf, if_neg (show ¬ (a0 = 35) by omega), if_neg (show ¬ (a0 = 267) by omega), if_neg (show ¬ (a0 = 269) by omega), if_pos h4], rfl⟩
        ·
          refine wk_b tt_42 2 (pc' := 31) (ls' := [(0, .inl (a0))]) (st' := [.inl (271), .inl (a0)]) (σ' := σ) rfl ?_
          refine wk_if2 tt_42 (tgt := 55) rfl rfl ra0 (by decide) (fun (h5 : a0 = 271) => ?_) (fun (h5 : ¬ a0 = 271) => ?_)
          ·
            refine wk_b tt_42 4 (pc' := 62) (ls' := [(1, .inl (1)), (0, .inl (a0))]) (st' := [.inl (1)]) (σ' := σ) rfl ?_
            refine wk_if tt_42 (tgt := 69) rfl rfl (by decide) (fun (h : 1 = 0) => absurd h (by decide)) (fun _ => ?_)
            refine wk_b tt_42 2 (pc' := 70) (ls' := [(1, .inl (1)), (0, .inl (a0))]) (st' := [.inl (1)]) (σ' := σ) rfl ?_
            exact wk_rI tt_42 rfl rfl ⟨by rw [v_kPartsOf, if_neg (show ¬ (a0 = 35) by omega), if_neg (show ¬ (a0 = 267) by omega), if_neg (show ¬ (a0 = 269) by omega), if_neg (show ¬ (a0 = 270) by omega), if_pos h5], rfl⟩
          ·
            refine wk_b tt_42 2 (pc' := 38) (ls' := [(0, .inl (a0))]) (st' := [.inl (272), .inl (a0)]) (σ' := σ) rfl ?_
            refine wk_if2 tt_42 (tgt := 55) rfl rfl ra0 (by decide) (fun (h6 : a0 = 272) => ?_) (fun (h6 : ¬ a0 = 272) => ?_)
            ·
              refine wk_b tt_42 4 (pc' := 62) (ls' := [(1, .inl (1)), (0, .inl (a0))]) (st' := [.inl (1)]) (σ' := σ) rfl ?_
              refine wk_if tt_42 (tgt := 69) rfl rfl (by decide) (fun (h : 1 = 0) => absurd h (by decide)) (fun _ => ?_)
              refine wk_b tt_42 2 (pc' := 70) (ls' := [(1, .inl (1)), (0, .inl (a0))]) (st' := [.inl (1)]) (σ' := σ) rfl ?_
              exact wk_rI tt_42 rfl rfl ⟨by rw [v_kPartsOf, if_neg (show ¬ (a0 = 35) by omega), if_neg (show ¬ (a0 = 267) by omega), if_neg (show ¬ (a0 = 269) by omega), if_neg (show ¬ (a0 = 270) by omega), if_neg (show ¬ (a0 = 271) by omega), if_pos h6], rfl⟩
            ·
              refine wk_b tt_42 2 (pc' := 45) (ls' := [(0, .inl (a0))]) (st' := [.inl (273), .inl (a0)]) (σ' := σ) rfl ?_
              refine wk_if2 tt_42 (tgt := 55) rfl rfl ra0 (by decide) (fun (h7 : a0 = 273) => ?_) (fun (h7 : ¬ a0 = 273) => ?_)
              ·
                refine wk_b tt_42 4 (pc' := 62) (ls' := [(1, .inl (1)), (0, .inl (a0))]) (st' := [.inl (1)]) (σ' := σ) rfl ?_
                refine wk_if tt_42 (tgt := 69) rfl rfl (by decide) (fun (h : 1 = 0) => absurd h (by decide)) (fun _ => ?_)
                refine wk_b tt_42 2 (pc' := 70) (ls' := [(1, .inl (1)), (0, .inl (a0))]) (st' := [.inl (1)]) (σ' := σ) rfl ?_
                exact wk_rI tt_42 rfl rfl ⟨by rw [v_kPartsOf, if_neg (show ¬ (a0 = 35) by omega), if_neg (show ¬ (a0 = 267) by omega), if_neg (show ¬ (a0 = 269) by omega), if_neg (show ¬ (a0 = 270) by omega), if_neg (show ¬ (a0 = 271) by omega), if_neg (show ¬ (a0 = 272) by omega), if_pos h7], rfl⟩
              ·
                refine wk_b tt_42 2 (pc' := 52) (ls' := [(0, .inl (a0))]) (st' := [.inl (275), .inl (a0)]) (σ' := σ) rfl ?_
                refine wk_if2 tt_42 (tgt := 59) rfl rfl ra0 (by decide) (fun (h8 : ¬ a0 = 275) => ?_) (fun (h8 : a0 = 275) => ?_)
                ·
                  refine wk_b tt_42 3 (pc' := 62) (ls' := [(1, .inl (0)), (0, .inl (a0))]) (st' := [.inl (0)]) (σ' := σ) rfl ?_
                  refine wk_if tt_42 (tgt := 69) rfl rfl (by decide) (fun _ => ?_) (fun (h : ¬ 0 = 0) => absurd h (by decide))
                  refine wk_b tt_42 1 (pc' := 70) (ls' := [(1, .inl (0)), (0, .inl (a0))]) (st' := [.inl (2)]) (σ' := σ) rfl ?_
                  exact wk_rI tt_42 rfl rfl ⟨by rw [v_kPartsOf, if_neg (show ¬ (a0 = 35) by omega), if_neg (show ¬ (a0 = 267) by omega), if_neg (show ¬ (a0 = 269) by omega), if_neg (show ¬ (a0 = 270) by omega), if_neg (show ¬ (a0 = 271) by omega), if_neg (show ¬ (a0 = 272) by omega), if_neg (show ¬ (a0 = 273) by omega), if_pos h8], rfl⟩
                ·
                  refine wk_b tt_42 4 (pc' := 62) (ls' := [(1, .inl (1)), (0, .inl (a0))]) (st' := [.inl (1)]) (σ' := σ) rfl ?_
                  refine wk_if tt_42 (tgt := 69) rfl rfl (by decide) (fun (h : 1 = 0) => absurd h (by decide)) (fun _ => ?_)
                  refine wk_b tt_42 2 (pc' := 70) (ls' := [(1, .inl (1)), (0, .inl (a0))]) (st' := [.inl (1)]) (σ' := σ) rfl ?_
                  exact wk_rI tt_42 rfl rfl ⟨by rw [v_kPartsOf, if_neg (show ¬ (a0 = 35) by omega), if_neg (show ¬ (a0 = 267) by omega), if_neg (show ¬ (a0 = 269) by omega), if_neg (show ¬ (a0 = 270) by omega), if_neg (show ¬ (a0 = 271) by omega), if_neg (show ¬ (a0 = 272) by omega), if_neg (show ¬ (a0 = 273) by omega), if_neg (show ¬ (¬ a0 = 275) by omega)], rfl⟩
theorem vr_kPartsOf  (a0 : Int) (ra0 : sg_R a0) : sg_R (v_kPartsOf a0) := by
  unfold v_kPartsOf
  by_cases h : a0 = 35
  · rw [if_pos h]
    decide
  · rw [if_neg h]
    by_cases h : a0 = 267
    · rw [if_pos h]
      decide
    · rw [if_neg h]
      by_cases h : a0 = 269
      · rw [if_pos h]
        decide
      · rw [if_neg h]
        by_cases h : a0 = 270
        · rw [if_pos h]
          decide
        · rw [if_neg h]
          by_cases h : a0 = 271
          · rw [if_pos h]
            decide
          · rw [if_neg h]
            by_cases h : a0 = 272
            · rw [if_pos h]
              decide
            · rw [if_neg h]
              by_cases h : a0 = 273
              · rw [if_pos h]
                decide
              · rw [if_neg h]
                by_cases h : ¬ a0 = 275
                · rw [if_pos h]
                  decide
                · rw [if_neg h]
                  decide
-- NestedVectors$Checker.depthOfParts
def V_kDepthOfParts_35 (σ : sg_S) (b3 : Int) (Q : Int → sg_S → Prop) : Prop := ((b3 ≤ 0 → Q ((-1)) σ) ∧ (0 < b3 → Q (0) σ))
set_option maxHeartbeats 4000000 in
set_option maxRecDepth 8000 in
theorem w_kDepthOfParts_35 (z : Value) (σ : sg_S) (b3 : Int) (Q : Int → sg_S → Prop) (rb3 : sg_R b3) (w : V_kDepthOfParts_35 σ b3 Q) : wx z 0 36 168 [(3, .inl (b3))] [] σ (fun v σ' => ∃ q, v = some (.inl q) ∧ sg_R q ∧ σ = σ' ∧ Q q σ') := by
  unfold V_kDepthOfParts_35 at w
  refine wk_b tt_36 1 (pc' := 169) (ls' := [(3, .inl (b3))]) (st' := [.inl (b3)]) (σ' := σ) rfl ?_
  refine wk_if tt_36 (tgt := 176) rfl rfl rb3 (fun (h1 : b3 ≤ 0) => ?_) (fun (h1 : 0 < b3) => ?_)
  ·
    have w := w.1 h1
    refine wk_b tt_36 1 (pc' := 177) (ls' := [(3, .inl (b3))]) (st' := [.inl ((-1))]) (σ' := σ) rfl ?_
    exact wk_rI tt_36 rfl rfl ⟨_, rfl, (by decide), rfl, w⟩
  ·
    have w := w.2 h1
    refine wk_b tt_36 2 (pc' := 177) (ls' := [(3, .inl (b3))]) (st' := [.inl (0)]) (σ' := σ) rfl ?_
    exact wk_rI tt_36 rfl rfl ⟨_, rfl, (by decide), rfl, w⟩
-- NestedVectors$Checker.depthOfParts
def V_kDepthOfParts_91 (σ : sg_S) (b3 : Int) (b4 : Int) (Q : Int → sg_S → Prop) : Prop := ((b3 ≤ 0 → Q ((-1)) σ) ∧ (0 < b3 → ((¬ b4 = 0 → Q ((-1)) σ) ∧ (b4 = 0 → sg_R (b3 - 1) ∧ Q ((b3 - 1)) σ))))
set_option maxHeartbeats 4000000 in
set_option maxRecDepth 8000 in
theorem w_kDepthOfParts_91 (z : Value) (σ : sg_S) (b3 : Int) (b4 : Int) (Q : Int → sg_S → Prop) (rb3 : sg_R b3) (rb4 : sg_R b4) (w : V_kDepthOfParts_91 σ b3 b4 Q) : wx z 0 36 178 [(3, .inl (b3)), (4, .inl (b4))] [] σ (fun v σ' => ∃ q, v = some (.inl q) ∧ sg_R q ∧ σ = σ' ∧ Q q σ') := by
  unfold V_kDepthOfParts_91 at w
  refine wk_b tt_36 1 (pc' := 179) (ls' := [(3, .inl (b3)), (4, .inl (b4))]) (st' := [.inl (b3)]) (σ' := σ) rfl ?_
  refine wk_if tt_36 (tgt := 193) rfl rfl rb3 (fun (h1 : b3 ≤ 0) => ?_) (fun (h1 : 0 < b3) => ?_)
  ·
    have w := w.1 h1
    refine wk_b tt_36 1 (pc' := 194) (ls' := [(3, .inl (b3)), (4, .inl (b4))]) (st' := [.inl ((-1))]) (σ' := σ) rfl ?_
    exact wk_rI tt_36 rfl rfl ⟨_, rfl, (by decide), rfl, w⟩
  ·
    have w := w.2 h1
    refine wk_b tt_36 1 (pc' := 184) (ls' := [(3, .inl (b3)), (4, .inl (b4))]) (st' := [.inl (b4)]) (σ' := σ) rfl ?_
    refine wk_if tt_36 (tgt := 193) rfl rfl rb4 (fun (h2 : ¬ b4 = 0) => ?_) (fun (h2 : b4 = 0) => ?_)
    ·
      have w := w.1 h2
      refine wk_b tt_36 1 (pc' := 194) (ls' := [(3, .inl (b3)), (4, .inl (b4))]) (st' := [.inl ((-1))]) (σ' := σ) rfl ?_
      exact wk_rI tt_36 rfl rfl ⟨_, rfl, (by decide), rfl, w⟩
    ·
      have w := w.2 h2
      obtain ⟨c3, w⟩ := w
      refine wk_b tt_36 4 (pc' := 194) (ls' := [(3, .inl (b3)), (4, .inl (b4))]) (st' := [.inl ((b3 - 1))]) (σ' := σ) rfl ?_
      exact wk_rI tt_36 rfl rfl ⟨_, rfl, c3, rfl, w⟩
-- NestedVectors$Checker.depthOfParts
def V_kDepthOfParts_267 (σ : sg_S) (b3 : Int) (Q : Int → sg_S → Prop) : Prop := ((¬ b3 = 0 → Q ((-1)) σ) ∧ (b3 = 0 → Q (1) σ))
set_option maxHeartbeats 4000000 in
set_option maxRecDepth 8000 in
theorem w_kDepthOfParts_267 (z : Value) (σ : sg_S) (b3 : Int) (Q : Int → sg_S → Prop) (rb3 : sg_R b3) (w : V_kDepthOfParts_267 σ b3 Q) : wx z 0 36 195 [(3, .inl (b3))] [] σ (fun v σ' => ∃ q, v = some (.inl q) ∧ sg_R q ∧ σ = σ' ∧ Q q σ') := by
  unfold V_kDepthOfParts_267 at w
  refine wk_b tt_36 1 (pc' := 196) (ls' := [(3, .inl (b3))]) (st' := [.inl (b3)]) (σ' := σ) rfl ?_
  refine wk_if tt_36 (tgt := 203) rfl rfl rb3 (fun (h1 : ¬ b3 = 0) => ?_) (fun (h1 : b3 = 0) => ?_)
  ·
    have w := w.1 h1
    refine wk_b tt_36 1 (pc' := 204) (ls' := [(3, .inl (b3))]) (st' := [.inl ((-1))]) (σ' := σ) rfl ?_
    exact wk_rI tt_36 rfl rfl ⟨_, rfl, (by decide), rfl, w⟩
  ·
    have w := w.2 h1
    refine wk_b tt_36 2 (pc' := 204) (ls' := [(3, .inl (b3))]) (st' := [.inl (1)]) (σ' := σ) rfl ?_
    exact wk_rI tt_36 rfl rfl ⟨_, rfl, (by decide), rfl, w⟩
-- NestedVectors$Checker.depthOfParts
def V_kDepthOfParts_268 (σ : sg_S) (b3 : Int) (b4 : Int) (Q : Int → sg_S → Prop) : Prop := ((¬ b4 = 0 → Q ((-1)) σ) ∧ (b4 = 0 → sg_R (b3 + 1) ∧ Q ((b3 + 1)) σ))
set_option maxHeartbeats 4000000 in
set_option maxRecDepth 8000 in
theorem w_kDepthOfParts_268 (z : Value) (σ : sg_S) (b3 : Int) (b4 : Int) (Q : Int → sg_S → Prop) (rb3 : sg_R b3) (rb4 : sg_R b4) (w : V_kDepthOfParts_268 σ b3 b4 Q) : wx z 0 36 205 [(3, .inl (b3)), (4, .inl (b4))] [] σ (fun v σ' => ∃ q, v = some (.inl q) ∧ sg_R q ∧ σ = σ' ∧ Q q σ') := by
  unfold V_kDepthOfParts_268 at w
  refine wk_b tt_36 1 (pc' := 207) (ls' := [(3, .inl (b3)), (4, .inl (b4))]) (st' := [.inl (b4)]) (σ' := σ) rfl ?_
  refine wk_if tt_36 (tgt := 216) rfl rfl rb4 (fun (h1 : ¬ b4 = 0) => ?_) (fun (h1 : b4 = 0) => ?_)
  ·
    have w := w.1 h1
    refine wk_b tt_36 1 (pc' := 217) (ls' := [(3, .inl (b3)), (4, .inl (b4))]) (st' := [.inl ((-1))]) (σ' := σ) rfl ?_
    exact wk_rI tt_36 rfl rfl ⟨_, rfl, (by decide), rfl, w⟩
  ·
    have w := w.2 h1
    obtain ⟨c2, w⟩ := w
    refine wk_b tt_36 4 (pc' := 217) (ls' := [(3, .inl (b3)), (4, .inl (b4))]) (st' := [.inl ((b3 + 1))]) (σ' := σ) rfl ?_
    exact wk_rI tt_36 rfl rfl ⟨_, rfl, c2, rfl, w⟩
-- NestedVectors$Checker.depthOfParts
def V_kDepthOfParts_269 (σ : sg_S) (b3 : Int) (Q : Int → sg_S → Prop) : Prop := ((¬ b3 = 1 → Q ((-1)) σ) ∧ (b3 = 1 → Q (0) σ))
set_option maxHeartbeats 4000000 in
set_option maxRecDepth 8000 in
theorem w_kDepthOfParts_269 (z : Value) (σ : sg_S) (b3 : Int) (Q : Int → sg_S → Prop) (rb3 : sg_R b3) (w : V_kDepthOfParts_269 σ b3 Q) : wx z 0 36 218 [(3, .inl (b3))] [] σ (fun v σ' => ∃ q, v = some (.inl q) ∧ sg_R q ∧ σ = σ' ∧ Q q σ') := by
  unfold V_kDepthOfParts_269 at w
  refine wk_b tt_36 2 (pc' := 220) (ls' := [(3, .inl (b3))]) (st' := [.inl (1), .inl (b3)]) (σ' := σ) rfl ?_
  refine wk_if2 tt_36 (tgt := 227) rfl rfl rb3 (by decide) (fun (h1 : ¬ b3 = 1) => ?_) (fun (h1 : b3 = 1) => ?_)
  ·
    have w := w.1 h1
    refine wk_b tt_36 1 (pc' := 228) (ls' := [(3, .inl (b3))]) (st' := [.inl ((-1))]) (σ' := σ) rfl ?_
    exact wk_rI tt_36 rfl rfl ⟨_, rfl, (by decide), rfl, w⟩
  ·
    have w := w.2 h1
    refine wk_b tt_36 2 (pc' := 228) (ls' := [(3, .inl (b3))]) (st' := [.inl (0)]) (σ' := σ) rfl ?_
    exact wk_rI tt_36 rfl rfl ⟨_, rfl, (by decide), rfl, w⟩
-- NestedVectors$Checker.depthOfParts
def V_kDepthOfParts_272 (σ : sg_S) (b3 : Int) (Q : Int → sg_S → Prop) : Prop := ((¬ b3 = 1 → Q ((-1)) σ) ∧ (b3 = 1 → Q (1) σ))
set_option maxHeartbeats 4000000 in
set_option maxRecDepth 8000 in
theorem w_kDepthOfParts_272 (z : Value) (σ : sg_S) (b3 : Int) (Q : Int → sg_S → Prop) (rb3 : sg_R b3) (w : V_kDepthOfParts_272 σ b3 Q) : wx z 0 36 229 [(3, .inl (b3))] [] σ (fun v σ' => ∃ q, v = some (.inl q) ∧ sg_R q ∧ σ = σ' ∧ Q q σ') := by
  unfold V_kDepthOfParts_272 at w
  refine wk_b tt_36 2 (pc' := 231) (ls' := [(3, .inl (b3))]) (st' := [.inl (1), .inl (b3)]) (σ' := σ) rfl ?_
  refine wk_if2 tt_36 (tgt := 238) rfl rfl rb3 (by decide) (fun (h1 : ¬ b3 = 1) => ?_) (fun (h1 : b3 = 1) => ?_)
  ·
    have w := w.1 h1
    refine wk_b tt_36 1 (pc' := 239) (ls' := [(3, .inl (b3))]) (st' := [.inl ((-1))]) (σ' := σ) rfl ?_
    exact wk_rI tt_36 rfl rfl ⟨_, rfl, (by decide), rfl, w⟩
  ·
    have w := w.2 h1
    refine wk_b tt_36 2 (pc' := 239) (ls' := [(3, .inl (b3))]) (st' := [.inl (1)]) (σ' := σ) rfl ?_
    exact wk_rI tt_36 rfl rfl ⟨_, rfl, (by decide), rfl, w⟩
-- NestedVectors$Checker.depthOfParts
def V_kDepthOfParts_273 (σ : sg_S) (b3 : Int) (Q : Int → sg_S → Prop) : Prop := ((b3 ≤ 0 → Q ((-1)) σ) ∧ (0 < b3 → Q (b3) σ))
set_option maxHeartbeats 4000000 in
set_option maxRecDepth 8000 in
theorem w_kDepthOfParts_273 (z : Value) (σ : sg_S) (b3 : Int) (Q : Int → sg_S → Prop) (rb3 : sg_R b3) (w : V_kDepthOfParts_273 σ b3 Q) : wx z 0 36 240 [(3, .inl (b3))] [] σ (fun v σ' => ∃ q, v = some (.inl q) ∧ sg_R q ∧ σ = σ' ∧ Q q σ') := by
  unfold V_kDepthOfParts_273 at w
  refine wk_b tt_36 1 (pc' := 241) (ls' := [(3, .inl (b3))]) (st' := [.inl (b3)]) (σ' := σ) rfl ?_
  refine wk_if tt_36 (tgt := 248) rfl rfl rb3 (fun (h1 : b3 ≤ 0) => ?_) (fun (h1 : 0 < b3) => ?_)
  ·
    have w := w.1 h1
    refine wk_b tt_36 1 (pc' := 249) (ls' := [(3, .inl (b3))]) (st' := [.inl ((-1))]) (σ' := σ) rfl ?_
    exact wk_rI tt_36 rfl rfl ⟨_, rfl, (by decide), rfl, w⟩
  ·
    have w := w.2 h1
    refine wk_b tt_36 2 (pc' := 249) (ls' := [(3, .inl (b3))]) (st' := [.inl (b3)]) (σ' := σ) rfl ?_
    exact wk_rI tt_36 rfl rfl ⟨_, rfl, rb3, rfl, w⟩
-- NestedVectors$Checker.depthOfParts
def V_kDepthOfParts_274 (σ : sg_S) (b3 : Int) (b4 : Int) (Q : Int → sg_S → Prop) : Prop := ((b3 ≤ 0 → Q ((-1)) σ) ∧ (0 < b3 → ((¬ b3 = b4 → Q ((-1)) σ) ∧ (b3 = b4 → Q (b3) σ))))
set_option maxHeartbeats 4000000 in
set_option maxRecDepth 8000 in
theorem w_kDepthOfParts_274 (z : Value) (σ : sg_S) (b3 : Int) (b4 : Int) (Q : Int → sg_S → Prop) (rb3 : sg_R b3) (rb4 : sg_R b4) (w : V_kDepthOfParts_274 σ b3 b4 Q) : wx z 0 36 250 [(3, .inl (b3)), (4, .inl (b4))] [] σ (fun v σ' => ∃ q, v = some (.inl q) ∧ sg_R q ∧ σ = σ' ∧ Q q σ') := by
  unfold V_kDepthOfParts_274 at w
  refine wk_b tt_36 1 (pc' := 251) (ls' := [(3, .inl (b3)), (4, .inl (b4))]) (st' := [.inl (b3)]) (σ' := σ) rfl ?_
  refine wk_if tt_36 (tgt := 264) rfl rfl rb3 (fun (h1 : b3 ≤ 0) => ?_) (fun (h1 : 0 < b3) => ?_)
  ·
    have w := w.1 h1
    refine wk_b tt_36 1 (pc' := 265) (ls' := [(3, .inl (b3)), (4, .inl (b4))]) (st' := [.inl ((-1))]) (σ' := σ) rfl ?_
    exact wk_rI tt_36 rfl rfl ⟨_, rfl, (by decide), rfl, w⟩
  ·
    have w := w.2 h1
    refine wk_b tt_36 2 (pc' := 257) (ls' := [(3, .inl (b3)), (4, .inl (b4))]) (st' := [.inl (b4), .inl (b3)]) (σ' := σ) rfl ?_
    refine wk_if2 tt_36 (tgt := 264) rfl rfl rb3 rb4 (fun (h2 : ¬ b3 = b4) => ?_) (fun (h2 : b3 = b4) => ?_)
    ·
      have w := w.1 h2
      refine wk_b tt_36 1 (pc' := 265) (ls' := [(3, .inl (b3)), (4, .inl (b4))]) (st' := [.inl ((-1))]) (σ' := σ) rfl ?_
      exact wk_rI tt_36 rfl rfl ⟨_, rfl, (by decide), rfl, w⟩
    ·
      have w := w.2 h2
      refine wk_b tt_36 2 (pc' := 265) (ls' := [(3, .inl (b3)), (4, .inl (b4))]) (st' := [.inl (b3)]) (σ' := σ) rfl ?_
      exact wk_rI tt_36 rfl rfl ⟨_, rfl, rb3, rfl, w⟩
