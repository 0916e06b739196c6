/-! Conditions of the reference's methods, by program (28). -/
-- told
set_option maxHeartbeats 4000000 in
set_option maxRecDepth 8000 in
theorem w_told_1701606245 (z : Value) (σ : sg_S) : wx z 2 332 0 [(0, .inr (.inl (1701606245)))] [] σ (fun v σ' => v = some (.inr (.inl (339965))) ∧ σ' = σ) := by
  refine wk_b tt_332 5 (pc' := 8) (ls' := [(4, .inl (56)), (2, .inr (.inl (0))), (0, .inr (.inl (1701606245)))]) (st' := [.inl (56)]) (σ' := σ) rfl ?_
  refine wk_if tt_332 (tgt := 48) rfl rfl (by decide) (fun (h : 56 < 0) => absurd h (by decide)) (fun _ => ?_)
  refine wk_b tt_332 2 (pc' := 14) (ls' := [(4, .inl (56)), (2, .inr (.inl (0))), (0, .inr (.inl (1701606245)))]) (st' := [.inl (56), .inr (.inl (1701606245))]) (σ' := σ) rfl ?_
  obtain ⟨c0, _⟩ : p_letterOf (1701606245) (56) := ⟨by decide, trivial⟩
  refine wk_callp tt_332 rfl rfl rfl rfl rfl tt_279 rfl (by decide) (w_letterOf z σ (1701606245) (56) (by decide) (by decide) ⟨c0, trivial⟩) ?_
  rw [show (v_letterOf (1701606245) (56)) = 0 from by decide]
  refine wk_b tt_332 2 (pc' := 21) (ls' := [(5, .inl (0)), (4, .inl (56)), (2, .inr (.inl (0))), (0, .inr (.inl (1701606245)))]) (st' := [.inl (0)]) (σ' := σ) rfl ?_
  refine wk_if tt_332 (tgt := 28) rfl rfl (by decide) (fun (h : ¬ 0 = 0) => absurd h (by decide)) (fun _ => ?_)
  refine wk_b tt_332 6 (pc' := 8) (ls' := [(4, .inl (48)), (2, .inr (.inl (0))), (5, .inl (0)), (0, .inr (.inl (1701606245)))]) (st' := [.inl (48)]) (σ' := σ) rfl ?_
  refine wk_if tt_332 (tgt := 48) rfl rfl (by decide) (fun (h : 48 < 0) => absurd h (by decide)) (fun _ => ?_)
  refine wk_b tt_332 2 (pc' := 14) (ls' := [(4, .inl (48)), (2, .inr (.inl (0))), (5, .inl (0)), (0, .inr (.inl (1701606245)))]) (st' := [.inl (48), .inr (.inl (1701606245))]) (σ' := σ) rfl ?_
  obtain ⟨c0, _⟩ : p_letterOf (1701606245) (48) := ⟨by decide, trivial⟩
  refine wk_callp tt_332 rfl rfl rfl rfl rfl tt_279 rfl (by decide) (w_letterOf z σ (1701606245) (48) (by decide) (by decide) ⟨c0, trivial⟩) ?_
  rw [show (v_letterOf (1701606245) (48)) = 0 from by decide]
  refine wk_b tt_332 2 (pc' := 21) (ls' := [(5, .inl (0)), (4, .inl (48)), (2, .inr (.inl (0))), (0, .inr (.inl (1701606245)))]) (st' := [.inl (0)]) (σ' := σ) rfl ?_
  refine wk_if tt_332 (tgt := 28) rfl rfl (by decide) (fun (h : ¬ 0 = 0) => absurd h (by decide)) (fun _ => ?_)
  refine wk_b tt_332 6 (pc' := 8) (ls' := [(4, .inl (40)), (2, .inr (.inl (0))), (5, .inl (0)), (0, .inr (.inl (1701606245)))]) (st' := [.inl (40)]) (σ' := σ) rfl ?_
  refine wk_if tt_332 (tgt := 48) rfl rfl (by decide) (fun (h : 40 < 0) => absurd h (by decide)) (fun _ => ?_)
  refine wk_b tt_332 2 (pc' := 14) (ls' := [(4, .inl (40)), (2, .inr (.inl (0))), (5, .inl (0)), (0, .inr (.inl (1701606245)))]) (st' := [.inl (40), .inr (.inl (1701606245))]) (σ' := σ) rfl ?_
  obtain ⟨c0, _⟩ : p_letterOf (1701606245) (40) := ⟨by decide, trivial⟩
  refine wk_callp tt_332 rfl rfl rfl rfl rfl tt_279 rfl (by decide) (w_letterOf z σ (1701606245) (40) (by decide) (by decide) ⟨c0, trivial⟩) ?_
  rw [show (v_letterOf (1701606245) (40)) = 0 from by decide]
  refine wk_b tt_332 2 (pc' := 21) (ls' := [(5, .inl (0)), (4, .inl (40)), (2, .inr (.inl (0))), (0, .inr (.inl (1701606245)))]) (st' := [.inl (0)]) (σ' := σ) rfl ?_
  refine wk_if tt_332 (tgt := 28) rfl rfl (by decide) (fun (h : ¬ 0 = 0) => absurd h (by decide)) (fun _ => ?_)
  refine wk_b tt_332 6 (pc' := 8) (ls' := [(4, .inl (32)), (2, .inr (.inl (0))), (5, .inl (0)), (0, .inr (.inl (1701606245)))]) (st' := [.inl (32)]) (σ' := σ) rfl ?_
  refine wk_if tt_332 (tgt := 48) rfl rfl (by decide) (fun (h : 32 < 0) => absurd h (by decide)) (fun _ => ?_)
  refine wk_b tt_332 2 (pc' := 14) (ls' := [(4, .inl (32)), (2, .inr (.inl (0))), (5, .inl (0)), (0, .inr (.inl (1701606245)))]) (st' := [.inl (32), .inr (.inl (1701606245))]) (σ' := σ) rfl ?_
  obtain ⟨c0, _⟩ : p_letterOf (1701606245) (32) := ⟨by decide, trivial⟩
  refine wk_callp tt_332 rfl rfl rfl rfl rfl tt_279 rfl (by decide) (w_letterOf z σ (1701606245) (32) (by decide) (by decide) ⟨c0, trivial⟩) ?_
  rw [show (v_letterOf (1701606245) (32)) = 0 from by decide]
  refine wk_b tt_332 2 (pc' := 21) (ls' := [(5, .inl (0)), (4, .inl (32)), (2, .inr (.inl (0))), (0, .inr (.inl (1701606245)))]) (st' := [.inl (0)]) (σ' := σ) rfl ?_
  refine wk_if tt_332 (tgt := 28) rfl rfl (by decide) (fun (h : ¬ 0 = 0) => absurd h (by decide)) (fun _ => ?_)
  refine wk_b tt_332 6 (pc' := 8) (ls' := [(4, .inl (24)), (2, .inr (.inl (0))), (5, .inl (0)), (0, .inr (.inl (1701606245)))]) (st' := [.inl (24)]) (σ' := σ) rfl ?_
  refine wk_if tt_332 (tgt := 48) rfl rfl (by decide) (fun (h : 24 < 0) => absurd h (by decide)) (fun _ => ?_)
  refine wk_b tt_332 2 (pc' := 14) (ls' := [(4, .inl (24)), (2, .inr (.inl (0))), (5, .inl (0)), (0, .inr (.inl (1701606245)))]) (st' := [.inl (24), .inr (.inl (1701606245))]) (σ' := σ) rfl ?_
  obtain ⟨c0, _⟩ : p_letterOf (1701606245) (24) := ⟨by decide, trivial⟩
  refine wk_callp tt_332 rfl rfl rfl rfl rfl tt_279 rfl (by decide) (w_letterOf z σ (1701606245) (24) (by decide) (by decide) ⟨c0, trivial⟩) ?_
  rw [show (v_letterOf (1701606245) (24)) = 101 from by decide]
  refine wk_b tt_332 2 (pc' := 21) (ls' := [(5, .inl (101)), (4, .inl (24)), (2, .inr (.inl (0))), (0, .inr (.inl (1701606245)))]) (st' := [.inl (101)]) (σ' := σ) rfl ?_
  refine wk_if tt_332 (tgt := 28) rfl rfl (by decide) (fun _ => ?_) (fun (h : 101 = 0) => absurd h (by decide))
  refine wk_b tt_332 12 (pc' := 8) (ls' := [(4, .inl (16)), (2, .inr (.inl ((((40 * 0) + (sg_n (101))) - 96)))), (5, .inl (101)), (0, .inr (.inl (1701606245)))]) (st' := [.inl (16)]) (σ' := σ) rfl ?_
  rw [show (sg_n (101)) = 101 from by rw [sg_id (by decide)]]
  show wx z 2 332 8 [(4, .inl (16)), (2, .inr (.inl (5))), (5, .inl (101)), (0, .inr (.inl (1701606245)))] [.inl (16)] σ (fun v σ' => v = some (.inr (.inl (339965))) ∧ σ' = σ)
  refine wk_if tt_332 (tgt := 48) rfl rfl (by decide) (fun (h : 16 < 0) => absurd h (by decide)) (fun _ => ?_)
  refine wk_b tt_332 2 (pc' := 14) (ls' := [(4, .inl (16)), (2, .inr (.inl (5))), (5, .inl (101)), (0, .inr (.inl (1701606245)))]) (st' := [.inl (16), .inr (.inl (1701606245))]) (σ' := σ) rfl ?_
  obtain ⟨c0, _⟩ : p_letterOf (1701606245) (16) := ⟨by decide, trivial⟩
  refine wk_callp tt_332 rfl rfl rfl rfl rfl tt_279 rfl (by decide) (w_letterOf z σ (1701606245) (16) (by decide) (by decide) ⟨c0, trivial⟩) ?_
  rw [show (v_letterOf (1701606245) (16)) = 108 from by decide]
  refine wk_b tt_332 2 (pc' := 21) (ls' := [(5, .inl (108)), (4, .inl (16)), (2, .inr (.inl (5))), (0, .inr (.inl (1701606245)))]) (st' := [.inl (108)]) (σ' := σ) rfl ?_
  refine wk_if tt_332 (tgt := 28) rfl rfl (by decide) (fun _ => ?_) (fun (h : 108 = 0) => absurd h (by decide))
  refine wk_b tt_332 12 (pc' := 8) (ls' := [(4, .inl (8)), (2, .inr (.inl ((((40 * 5) + (sg_n (108))) - 96)))), (5, .inl (108)), (0, .inr (.inl (1701606245)))]) (st' := [.inl (8)]) (σ' := σ) rfl ?_
  rw [show (sg_n (108)) = 108 from by rw [sg_id (by decide)]]
  show wx z 2 332 8 [(4, .inl (8)), (2, .inr (.inl (212))), (5, .inl (108)), (0, .inr (.inl (1701606245)))] [.inl (8)] σ (fun v σ' => v = some (.inr (.inl (339965))) ∧ σ' = σ)
  refine wk_if tt_332 (tgt := 48) rfl rfl (by decide) (fun (h : 8 < 0) => absurd h (by decide)) (fun _ => ?_)
  refine wk_b tt_332 2 (pc' := 14) (ls' := [(4, .inl (8)), (2, .inr (.inl (212))), (5, .inl (108)), (0, .inr (.inl (1701606245)))]) (st' := [.inl (8), .inr (.inl (1701606245))]) (σ' := σ) rfl ?_
  obtain ⟨c0, _⟩ : p_letterOf (1701606245) (8) := ⟨by decide, trivial⟩
  refine wk_callp tt_332 rfl rfl rfl rfl rfl tt_279 rfl (by decide) (w_letterOf z σ (1701606245) (8) (by decide) (by decide) ⟨c0, trivial⟩) ?_
  rw [show (v_letterOf (1701606245) (8)) = 115 from by decide]
  refine wk_b tt_332 2 (pc' := 21) (ls' := [(5, .inl (115)), (4, .inl (8)), (2, .inr (.inl (212))), (0, .inr (.inl (1701606245)))]) (st' := [.inl (115)]) (σ' := σ) rfl ?_
  refine wk_if tt_332 (tgt := 28) rfl rfl (by decide) (fun _ => ?_) (fun (h : 115 = 0) => absurd h (by decide))
  refine wk_b tt_332 12 (pc' := 8) (ls' := [(4, .inl (0)), (2, .inr (.inl ((((40 * 212) + (sg_n (115))) - 96)))), (5, .inl (115)), (0, .inr (.inl (1701606245)))]) (st' := [.inl (0)]) (σ' := σ) rfl ?_
  rw [show (sg_n (115)) = 115 from by rw [sg_id (by decide)]]
  show wx z 2 332 8 [(4, .inl (0)), (2, .inr (.inl (8499))), (5, .inl (115)), (0, .inr (.inl (1701606245)))] [.inl (0)] σ (fun v σ' => v = some (.inr (.inl (339965))) ∧ σ' = σ)
  refine wk_if tt_332 (tgt := 48) rfl rfl (by decide) (fun (h : 0 < 0) => absurd h (by decide)) (fun _ => ?_)
  refine wk_b tt_332 2 (pc' := 14) (ls' := [(4, .inl (0)), (2, .inr (.inl (8499))), (5, .inl (115)), (0, .inr (.inl (1701606245)))]) (st' := [.inl (0), .inr (.inl (1701606245))]) (σ' := σ) rfl ?_
  obtain ⟨c0, _⟩ : p_letterOf (1701606245) (0) := ⟨by decide, trivial⟩
  refine wk_callp tt_332 rfl rfl rfl rfl rfl tt_279 rfl (by decide) (w_letterOf z σ (1701606245) (0) (by decide) (by decide) ⟨c0, trivial⟩) ?_
  rw [show (v_letterOf (1701606245) (0)) = 101 from by decide]
  refine wk_b tt_332 2 (pc' := 21) (ls' := [(5, .inl (101)), (4, .inl (0)), (2, .inr (.inl (8499))), (0, .inr (.inl (1701606245)))]) (st' := [.inl (101)]) (σ' := σ) rfl ?_
  refine wk_if tt_332 (tgt := 28) rfl rfl (by decide) (fun _ => ?_) (fun (h : 101 = 0) => absurd h (by decide))
  refine wk_b tt_332 12 (pc' := 8) (ls' := [(4, .inl ((-8))), (2, .inr (.inl ((((40 * 8499) + (sg_n (101))) - 96)))), (5, .inl (101)), (0, .inr (.inl (1701606245)))]) (st' := [.inl ((-8))]) (σ' := σ) rfl ?_
  rw [show (sg_n (101)) = 101 from by rw [sg_id (by decide)]]
  show wx z 2 332 8 [(4, .inl ((-8))), (2, .inr (.inl (339965))), (5, .inl (101)), (0, .inr (.inl (1701606245)))] [.inl ((-8))] σ (fun v σ' => v = some (.inr (.inl (339965))) ∧ σ' = σ)
  refine wk_if tt_332 (tgt := 48) rfl rfl (by decide) (fun _ => ?_) (fun (h : 0 ≤ (-8)) => absurd h (by decide))
  refine wk_b tt_332 1 (pc' := 49) (ls' := [(4, .inl ((-8))), (2, .inr (.inl (339965))), (5, .inl (101)), (0, .inr (.inl (1701606245)))]) (st' := [.inr (.inl (339965))]) (σ' := σ) rfl ?_
  exact wk_rL tt_332 rfl rfl ⟨rfl, rfl⟩
-- told
set_option maxHeartbeats 4000000 in
set_option maxRecDepth 8000 in
theorem w_told_6909556 (z : Value) (σ : sg_S) : wx z 2 332 0 [(0, .inr (.inl (6909556)))] [] σ (fun v σ' => v = some (.inr (.inl (14980))) ∧ σ' = σ) := by
  refine wk_b tt_332 5 (pc' := 8) (ls' := [(4, .inl (56)), (2, .inr (.inl (0))), (0, .inr (.inl (6909556)))]) (st' := [.inl (56)]) (σ' := σ) rfl ?_
  refine wk_if tt_332 (tgt := 48) rfl rfl (by decide) (fun (h : 56 < 0) => absurd h (by decide)) (fun _ => ?_)
  refine wk_b tt_332 2 (pc' := 14) (ls' := [(4, .inl (56)), (2, .inr (.inl (0))), (0, .inr (.inl (6909556)))]) (st' := [.inl (56), .inr (.inl (6909556))]) (σ' := σ) rfl ?_
  obtain ⟨c0, _⟩ : p_letterOf (6909556) (56) := ⟨by decide, trivial⟩
  refine wk_callp tt_332 rfl rfl rfl rfl rfl tt_279 rfl (by decide) (w_letterOf z σ (6909556) (56) (by decide) (by decide) ⟨c0, trivial⟩) ?_
  rw [show (v_letterOf (6909556) (56)) = 0 from by decide]
  refine wk_b tt_332 2 (pc' := 21) (ls' := [(5, .inl (0)), (4, .inl (56)), (2, .inr (.inl (0))), (0, .inr (.inl (6909556)))]) (st' := [.inl (0)]) (σ' := σ) rfl ?_
  refine wk_if tt_332 (tgt := 28) rfl rfl (by decide) (fun (h : ¬ 0 = 0) => absurd h (by decide)) (fun _ => ?_)
  refine wk_b tt_332 6 (pc' := 8) (ls' := [(4, .inl (48)), (2, .inr (.inl (0))), (5, .inl (0)), (0, .inr (.inl (6909556)))]) (st' := [.inl (48)]) (σ' := σ) rfl ?_
  refine wk_if tt_332 (tgt := 48) rfl rfl (by decide) (fun (h : 48 < 0) => absurd h (by decide)) (fun _ => ?_)
  refine wk_b tt_332 2 (pc' := 14) (ls' := [(4, .inl (48)), (2, .inr (.inl (0))), (5, .inl (0)), (0, .inr (.inl (6909556)))]) (st' := [.inl (48), .inr (.inl (6909556))]) (σ' := σ) rfl ?_
  obtain ⟨c0, _⟩ : p_letterOf (6909556) (48) := ⟨by decide, trivial⟩
  refine wk_callp tt_332 rfl rfl rfl rfl rfl tt_279 rfl (by decide) (w_letterOf z σ (6909556) (48) (by decide) (by decide) ⟨c0, trivial⟩) ?_
  rw [show (v_letterOf (6909556) (48)) = 0 from by decide]
  refine wk_b tt_332 2 (pc' := 21) (ls' := [(5, .inl (0)), (4, .inl (48)), (2, .inr (.inl (0))), (0, .inr (.inl (6909556)))]) (st' := [.inl (0)]) (σ' := σ) rfl ?_
  refine wk_if tt_332 (tgt := 28) rfl rfl (by decide) (fun (h : ¬ 0 = 0) => absurd h (by decide)) (fun _ => ?_)
  refine wk_b tt_332 6 (pc' := 8) (ls' := [(4, .inl (40)), (2, .inr (.inl (0))), (5, .inl (0)), (0, .inr (.inl (6909556)))]) (st' := [.inl (40)]) (σ' := σ) rfl ?_
  refine wk_if tt_332 (tgt := 48) rfl rfl (by decide) (fun (h : 40 < 0) => absurd h (by decide)) (fun _ => ?_)
  refine wk_b tt_332 2 (pc' := 14) (ls' := [(4, .inl (40)), (2, .inr (.inl (0))), (5, .inl (0)), (0, .inr (.inl (6909556)))]) (st' := [.inl (40), .inr (.inl (6909556))]) (σ' := σ) rfl ?_
  obtain ⟨c0, _⟩ : p_letterOf (6909556) (40) := ⟨by decide, trivial⟩
  refine wk_callp tt_332 rfl rfl rfl rfl rfl tt_279 rfl (by decide) (w_letterOf z σ (6909556) (40) (by decide) (by decide) ⟨c0, trivial⟩) ?_
  rw [show (v_letterOf (6909556) (40)) = 0 from by decide]
  refine wk_b tt_332 2 (pc' := 21) (ls' := [(5, .inl (0)), (4, .inl (40)), (2, .inr (.inl (0))), (0, .inr (.inl (6909556)))]) (st' := [.inl (0)]) (σ' := σ) rfl ?_
  refine wk_if tt_332 (tgt := 28) rfl rfl (by decide) (fun (h : ¬ 0 = 0) => absurd h (by decide)) (fun _ => ?_)
  refine wk_b tt_332 6 (pc' := 8) (ls' := [(4, .inl (32)), (2, .inr (.inl (0))), (5, .inl (0)), (0, .inr (.inl (6909556)))]) (st' := [.inl (32)]) (σ' := σ) rfl ?_
  refine wk_if tt_332 (tgt := 48) rfl rfl (by decide) (fun (h : 32 < 0) => absurd h (by decide)) (fun _ => ?_)
  refine wk_b tt_332 2 (pc' := 14) (ls' := [(4, .inl (32)), (2, .inr (.inl (0))), (5, .inl (0)), (0, .inr (.inl (6909556)))]) (st' := [.inl (32), .inr (.inl (6909556))]) (σ' := σ) rfl ?_
  obtain ⟨c0, _⟩ : p_letterOf (6909556) (32) := ⟨by decide, trivial⟩
  refine wk_callp tt_332 rfl rfl rfl rfl rfl tt_279 rfl (by decide) (w_letterOf z σ (6909556) (32) (by decide) (by decide) ⟨c0, trivial⟩) ?_
  rw [show (v_letterOf (6909556) (32)) = 0 from by decide]
  refine wk_b tt_332 2 (pc' := 21) (ls' := [(5, .inl (0)), (4, .inl (32)), (2, .inr (.inl (0))), (0, .inr (.inl (6909556)))]) (st' := [.inl (0)]) (σ' := σ) rfl ?_
  refine wk_if tt_332 (tgt := 28) rfl rfl (by decide) (fun (h : ¬ 0 = 0) => absurd h (by decide)) (fun _ => ?_)
  refine wk_b tt_332 6 (pc' := 8) (ls' := [(4, .inl (24)), (2, .inr (.inl (0))), (5, .inl (0)), (0, .inr (.inl (6909556)))]) (st' := [.inl (24)]) (σ' := σ) rfl ?_
  refine wk_if tt_332 (tgt := 48) rfl rfl (by decide) (fun (h : 24 < 0) => absurd h (by decide)) (fun _ => ?_)
  refine wk_b tt_332 2 (pc' := 14) (ls' := [(4, .inl (24)), (2, .inr (.inl (0))), (5, .inl (0)), (0, .inr (.inl (6909556)))]) (st' := [.inl (24), .inr (.inl (6909556))]) (σ' := σ) rfl ?_
  obtain ⟨c0, _⟩ : p_letterOf (6909556) (24) := ⟨by decide, trivial⟩
  refine wk_callp tt_332 rfl rfl rfl rfl rfl tt_279 rfl (by decide) (w_letterOf z σ (6909556) (24) (by decide) (by decide) ⟨c0, trivial⟩) ?_
  rw [show (v_letterOf (6909556) (24)) = 0 from by decide]
  refine wk_b tt_332 2 (pc' := 21) (ls' := [(5, .inl (0)), (4, .inl (24)), (2, .inr (.inl (0))), (0, .inr (.inl (6909556)))]) (st' := [.inl (0)]) (σ' := σ) rfl ?_
  refine wk_if tt_332 (tgt := 28) rfl rfl (by decide) (fun (h : ¬ 0 = 0) => absurd h (by decide)) (fun _ => ?_)
  refine wk_b tt_332 6 (pc' := 8) (ls' := [(4, .inl (16)), (2, .inr (.inl (0))), (5, .inl (0)), (0, .inr (.inl (6909556)))]) (st' := [.inl (16)]) (σ' := σ) rfl ?_
  refine wk_if tt_332 (tgt := 48) rfl rfl (by decide) (fun (h : 16 < 0) => absurd h (by decide)) (fun _ => ?_)
  refine wk_b tt_332 2 (pc' := 14) (ls' := [(4, .inl (16)), (2, .inr (.inl (0))), (5, .inl (0)), (0, .inr (.inl (6909556)))]) (st' := [.inl (16), .inr (.inl (6909556))]) (σ' := σ) rfl ?_
  obtain ⟨c0, _⟩ : p_letterOf (6909556) (16) := ⟨by decide, trivial⟩
  refine wk_callp tt_332 rfl rfl rfl rfl rfl tt_279 rfl (by decide) (w_letterOf z σ (6909556) (16) (by decide) (by decide) ⟨c0, trivial⟩) ?_
  rw [show (v_letterOf (6909556) (16)) = 105 from by decide]
  refine wk_b tt_332 2 (pc' := 21) (ls' := [(5, .inl (105)), (4, .inl (16)), (2, .inr (.inl (0))), (0, .inr (.inl (6909556)))]) (st' := [.inl (105)]) (σ' := σ) rfl ?_
  refine wk_if tt_332 (tgt := 28) rfl rfl (by decide) (fun _ => ?_) (fun (h : 105 = 0) => absurd h (by decide))
  refine wk_b tt_332 12 (pc' := 8) (ls' := [(4, .inl (8)), (2, .inr (.inl ((((40 * 0) + (sg_n (105))) - 96)))), (5, .inl (105)), (0, .inr (.inl (6909556)))]) (st' := [.inl (8)]) (σ' := σ) rfl ?_
  rw [show (sg_n (105)) = 105 from by rw [sg_id (by decide)]]
  show wx z 2 332 8 [(4, .inl (8)), (2, .inr (.inl (9))), (5, .inl (105)), (0, .inr (.inl (6909556)))] [.inl (8)] σ (fun v σ' => v = some (.inr (.inl (14980))) ∧ σ' = σ)
  refine wk_if tt_332 (tgt := 48) rfl rfl (by decide) (fun (h : 8 < 0) => absurd h (by decide)) (fun _ => ?_)
  refine wk_b tt_332 2 (pc' := 14) (ls' := [(4, .inl (8)), (2, .inr (.inl (9))), (5, .inl (105)), (0, .inr (.inl (6909556)))]) (st' := [.inl (8), .inr (.inl (6909556))]) (σ' := σ) rfl ?_
  obtain ⟨c0, _⟩ : p_letterOf (6909556) (8) := ⟨by decide, trivial⟩
  refine wk_callp tt_332 rfl rfl rfl rfl rfl tt_279 rfl (by decide) (w_letterOf z σ (6909556) (8) (by decide) (by decide) ⟨c0, trivial⟩) ?_
  rw [show (v_letterOf (6909556) (8)) = 110 from by decide]
  refine wk_b tt_332 2 (pc' := 21) (ls' := [(5, .inl (110)), (4, .inl (8)), (2, .inr (.inl (9))), (0, .inr (.inl (6909556)))]) (st' := [.inl (110)]) (σ' := σ) rfl ?_
  refine wk_if tt_332 (tgt := 28) rfl rfl (by decide) (fun _ => ?_) (fun (h : 110 = 0) => absurd h (by decide))
  refine wk_b tt_332 12 (pc' := 8) (ls' := [(4, .inl (0)), (2, .inr (.inl ((((40 * 9) + (sg_n (110))) - 96)))), (5, .inl (110)), (0, .inr (.inl (6909556)))]) (st' := [.inl (0)]) (σ' := σ) rfl ?_
  rw [show (sg_n (110)) = 110 from by rw [sg_id (by decide)]]
  show wx z 2 332 8 [(4, .inl (0)), (2, .inr (.inl (374))), (5, .inl (110)), (0, .inr (.inl (6909556)))] [.inl (0)] σ (fun v σ' => v = some (.inr (.inl (14980))) ∧ σ' = σ)
  refine wk_if tt_332 (tgt := 48) rfl rfl (by decide) (fun (h : 0 < 0) => absurd h (by decide)) (fun _ => ?_)
  refine wk_b tt_332 2 (pc' := 14) (ls' := [(4, .inl (0)), (2, .inr (.inl (374))), (5, .inl (110)), (0, .inr (.inl (6909556)))]) (st' := [.inl (0), .inr (.inl (6909556))]) (σ' := σ) rfl ?_
  obtain ⟨c0, _⟩ : p_letterOf (6909556) (0) := ⟨by decide, trivial⟩
  refine wk_callp tt_332 rfl rfl rfl rfl rfl tt_279 rfl (by decide) (w_letterOf z σ (6909556) (0) (by decide) (by decide) ⟨c0, trivial⟩) ?_
  rw [show (v_letterOf (6909556) (0)) = 116 from by decide]
  refine wk_b tt_332 2 (pc' := 21) (ls' := [(5, .inl (116)), (4, .inl (0)), (2, .inr (.inl (374))), (0, .inr (.inl (6909556)))]) (st' := [.inl (116)]) (σ' := σ) rfl ?_
  refine wk_if tt_332 (tgt := 28) rfl rfl (by decide) (fun _ => ?_) (fun (h : 116 = 0) => absurd h (by decide))
  refine wk_b tt_332 12 (pc' := 8) (ls' := [(4, .inl ((-8))), (2, .inr (.inl ((((40 * 374) + (sg_n (116))) - 96)))), (5, .inl (116)), (0, .inr (.inl (6909556)))]) (st' := [.inl ((-8))]) (σ' := σ) rfl ?_
  rw [show (sg_n (116)) = 116 from by rw [sg_id (by decide)]]
  show wx z 2 332 8 [(4, .inl ((-8))), (2, .inr (.inl (14980))), (5, .inl (116)), (0, .inr (.inl (6909556)))] [.inl ((-8))] σ (fun v σ' => v = some (.inr (.inl (14980))) ∧ σ' = σ)
  refine wk_if tt_332 (tgt := 48) rfl rfl (by decide) (fun _ => ?_) (fun (h : 0 ≤ (-8)) => absurd h (by decide))
  refine wk_b tt_332 1 (pc' := 49) (ls' := [(4, .inl ((-8))), (2, .inr (.inl (14980))), (5, .inl (116)), (0, .inr (.inl (6909556)))]) (st' := [.inr (.inl (14980))]) (σ' := σ) rfl ?_
  exact wk_rL tt_332 rfl rfl ⟨rfl, rfl⟩
def v_told (a : Int) : Int := (if a = 6579558 then (6606 : Int) else (if a = 7103860 then (19420 : Int) else (if a = 26990 then (374 : Int) else (if a = 26982 then (366 : Int) else (if a = 1952998766 then (1293014 : Int) else (if a = 1701606245 then (339965 : Int) else (if a = 6909556 then (14980 : Int) else (0 : Int))))))))
def p_told (a : Int) : Prop := a = 6579558 ∨ a = 7103860 ∨ a = 26990 ∨ a = 26982 ∨ a = 1952998766 ∨ a = 1701606245 ∨ a = 6909556
theorem w_told (z : Value) (σ : sg_S) (a : Int) (_ : sg_RL a) (w : p_told a) : wx z 2 332 0 [(0, .inr (.inl (a)))] [] σ (fun v σ' => v = some (.inr (.inl (v_told a))) ∧ σ' = σ) := by
  rcases w with h | h | h | h | h | h | h
  · subst h; exact w_told_6579558 z σ
  · subst h; exact w_told_7103860 z σ
  · subst h; exact w_told_26990 z σ
  · subst h; exact w_told_26982 z σ
  · subst h; exact w_told_1952998766 z σ
  · subst h; exact w_told_1701606245 z σ
  · subst h; exact w_told_6909556 z σ
theorem vr_told (a : Int) (_ : sg_RL a) (_ : p_told a) : sg_RL (v_told a) := by
  unfold v_told
  repeat (first | decide | split)
-- NestedVectorsModel.isWord
def v_isWord (σ : sg_S) (a1 : Int) : Int := (if ¬ (sg_g σ 90 ((sg_g σ 88 7))) = 2 then (0 : Int) else (if ¬ (sg_gl σ 92 ((sg_g σ 88 7))) = (v_told (a1)) then (0 : Int) else (1 : Int)))
def p_isWord (σ : sg_S) (a1 : Int) : Prop := (0 ≤ (sg_g σ 88 7) ∧ (sg_g σ 88 7) < 1210) ∧ ((¬ (sg_g σ 90 ((sg_g σ 88 7))) = 2 → True) ∧ ((sg_g σ 90 ((sg_g σ 88 7))) = 2 → p_told (a1) ∧ ((¬ (sg_gl σ 92 ((sg_g σ 88 7))) = (v_told (a1)) → True) ∧ ((sg_gl σ 92 ((sg_g σ 88 7))) = (v_told (a1)) → True))))
theorem vz_isWord {σ : sg_S} {a1 : Int} : v_isWord σ a1 = 0 ∨ v_isWord σ a1 = 1 := by
  unfold v_isWord
  by_cases h : ¬ (sg_g σ 90 ((sg_g σ 88 7))) = 2
  · rw [if_pos h]
    exact Or.inl rfl
  · rw [if_neg h]
    by_cases h : ¬ (sg_gl σ 92 ((sg_g σ 88 7))) = (v_told (a1))
    · rw [if_pos h]
      exact Or.inl rfl
    · rw [if_neg h]
      exact Or.inr rfl
set_option maxHeartbeats 4000000 in
set_option maxRecDepth 8000 in
theorem w_isWord (z : Value) (σ : sg_S) (a1 : Int) (ra1 : sg_RL a1) (w : p_isWord σ a1) : wx z 3 269 0 [(0, .inr (.inr (.ref 88))), (1, .inr (.inl (a1)))] [] σ (fun v σ' => v = some (.inl (v_isWord σ a1)) ∧ σ' = σ) := by
  unfold p_isWord at w
  refine wk_b tt_269 4 (pc' := 8) (ls' := [(0, .inr (.inr (.ref 88))), (1, .inr (.inl (a1)))]) (st' := [.inl ((sg_g σ 88 7)), .inr (.inr (.ref 90))]) (σ' := σ) rfl ?_
  obtain ⟨c1, w⟩ := w
  refine wk_ia tt_269 rfl rfl c1.1 c1.2 (sg_Rg _ _ _) ?_
  refine wk_b tt_269 1 (pc' := 10) (ls' := [(0, .inr (.inr (.ref 88))), (1, .inr (.inl (a1)))]) (st' := [.inl (2), .inl ((sg_g σ 90 ((sg_g σ 88 7))))]) (σ' := σ) rfl ?_
  refine wk_if2 tt_269 (tgt := 34) rfl rfl (sg_Rg _ _ _) (by decide) (fun (h2 : ¬ (sg_g σ 90 ((sg_g σ 88 7))) = 2) => ?_) (fun (h2 : (sg_g σ 90 ((sg_g σ 88 7))) = 2) => ?_)
  ·
    have w := w.1 h2
    refine wk_b tt_269 1 (pc' := 35) (ls' := [(0, .inr (.inr (.ref 88))), (1, .inr (.inl (a1)))]) (st' := [.inl (0)]) (σ' := σ) rfl ?_
    exact wk_rZ tt_269 rfl rfl (by decide) ⟨by rw [v_isWord, if_pos h2], rfl⟩
  ·
    have w := w.2 h2
    refine wk_b tt_269 4 (pc' := 21) (ls' := [(0, .inr (.inr (.ref 88))), (1, .inr (.inl (a1)))]) (st' := [.inl ((sg_g σ 88 7)), .inr (.inr (.ref 92))]) (σ' := σ) rfl ?_
    refine wk_la tt_269 rfl rfl c1.1 c1.2 (sg_Rg _ _ _) ?_
    refine wk_b tt_269 1 (pc' := 23) (ls' := [(0, .inr (.inr (.ref 88))), (1, .inr (.inl (a1)))]) (st' := [.inr (.inl (a1)), .inr (.inl ((sg_gl σ 92 ((sg_g σ 88 7)))))]) (σ' := σ) rfl ?_
    obtain ⟨c3, w⟩ := w
    refine wk_callp tt_269 rfl rfl rfl rfl rfl tt_332 rfl (by decide) (w_told z σ (a1) ra1 c3) ?_
    have r4 := vr_told  (a1) ra1 c3
    refine wk_lcif tt_269 (tgt := 34) rfl rfl rfl (sg_Rgl _ _ _) r4 (fun (h5 : ¬ (sg_gl σ 92 ((sg_g σ 88 7))) = (v_told (a1))) => ?_) (fun (h5 : (sg_gl σ 92 ((sg_g σ 88 7))) = (v_told (a1))) => ?_)
    ·
      have w := w.1 h5
      refine wk_b tt_269 1 (pc' := 35) (ls' := [(0, .inr (.inr (.ref 88))), (1, .inr (.inl (a1)))]) (st' := [.inl (0)]) (σ' := σ) rfl ?_
      exact wk_rZ tt_269 rfl rfl (by decide) ⟨by rw [v_isWord, if_neg (show ¬ (¬ (sg_g σ 90 ((sg_g σ 88 7))) = 2) by omega), if_pos h5], rfl⟩
    ·
      have w := w.2 h5
      refine wk_b tt_269 2 (pc' := 35) (ls' := [(0, .inr (.inr (.ref 88))), (1, .inr (.inl (a1)))]) (st' := [.inl (1)]) (σ' := σ) rfl ?_
      exact wk_rZ tt_269 rfl rfl (by decide) ⟨by rw [v_isWord, if_neg (show ¬ (¬ (sg_g σ 90 ((sg_g σ 88 7))) = 2) by omega), if_neg (show ¬ (¬ (sg_gl σ 92 ((sg_g σ 88 7))) = (v_told (a1))) by omega)], rfl⟩
theorem vF_isWord {L : List Nat} {σ σ' : sg_S} {a1 : Int} (hF : sg_F L σ σ') (h0 : sg_cv L 88 7 = false) (h1 : sg_ca L 90 = true) (h2 : sg_ca L 92 = true) : v_isWord σ' a1 = v_isWord σ a1 := by
  unfold v_isWord
  simp only [sg_F_g hF h0, sg_F_gl hF h0, sg_F_ga (k := _) hF h1, sg_F_gal (k := _) hF h1, sg_F_ga (k := _) hF h2, sg_F_gal (k := _) hF h2]
theorem pF_isWord {L : List Nat} {σ σ' : sg_S} {a1 : Int} (hF : sg_F L σ σ') (h0 : sg_cv L 88 7 = false) (h1 : sg_ca L 90 = true) (h2 : sg_ca L 92 = true) : p_isWord σ' a1 = p_isWord σ a1 := by
  unfold p_isWord
  simp only [sg_F_g hF h0, sg_F_gl hF h0, sg_F_ga (k := _) hF h1, sg_F_gal (k := _) hF h1, sg_F_ga (k := _) hF h2, sg_F_gal (k := _) hF h2]
-- NestedVectorsModel.pile
def V_pile (σ : sg_S) (a1 : Int) (a2 : Int) (Q : sg_S → Prop) : Prop := (0 ≤ (sg_g σ 88 31) ∧ (sg_g σ 88 31) < 4000) ∧ ∀ σ2, σ2 = (sg_w σ 110 ((sg_g σ 88 31)) (a1)) → ∀ σ5, σ5 = (sg_w σ2 111 ((sg_g σ 88 31)) (a2)) → sg_R ((sg_g σ 88 31) + 1) ∧ ∀ σ9, σ9 = (sg_w σ5 88 31 (((sg_g σ 88 31) + 1))) → Q σ9
set_option maxHeartbeats 4000000 in
set_option maxRecDepth 8000 in
theorem w_pile (z : Value) (σ : sg_S) (a1 : Int) (a2 : Int) (Q : sg_S → Prop) (ra1 : sg_R a1) (ra2 : sg_R a2) (w : V_pile σ a1 a2 Q) : wx z 0 305 0 [(0, .inr (.inr (.ref 88))), (1, .inl (a1)), (2, .inl (a2))] [] σ (fun v σ' => v = none ∧ sg_F [110, 111, 32088] σ σ' ∧ Q σ') := by
  unfold V_pile at w
  refine wk_b tt_305 5 (pc' := 9) (ls' := [(0, .inr (.inr (.ref 88))), (1, .inl (a1)), (2, .inl (a2))]) (st' := [.inl (a1), .inl ((sg_g σ 88 31)), .inr (.inr (.ref 110))]) (σ' := σ) rfl ?_
  obtain ⟨c1, w⟩ := w
  refine wk_is tt_305 rfl rfl c1.1 c1.2 (sg_Rg _ _ _) ?_
  generalize hs3 : (sg_w σ 110 ((sg_g σ 88 31)) (a1)) = σ2
  have w := w σ2 hs3.symm
  have hF4 : sg_F [110] σ σ2 := by rw [← hs3]; exact sg_F_w (sg_F_r _ _) rfl _
  refine wk_b tt_305 5 (pc' := 19) (ls' := [(0, .inr (.inr (.ref 88))), (1, .inl (a1)), (2, .inl (a2))]) (st' := [.inl (a2), .inl ((sg_g σ2 88 31)), .inr (.inr (.ref 111))]) (σ' := σ2) rfl ?_
  rw [show (sg_g σ2 88 31) = (sg_g σ 88 31) from by rw [sg_F_ga hF4 rfl]]
  refine wk_is tt_305 rfl rfl c1.1 c1.2 (sg_Rg _ _ _) ?_
  generalize hs6 : (sg_w σ2 111 ((sg_g σ 88 31)) (a2)) = σ5
  have w := w σ5 hs6.symm
  have hF7 : sg_F [111] σ2 σ5 := by rw [← hs6]; exact sg_F_w (sg_F_r _ _) rfl _
  obtain ⟨c8, w⟩ := w
  refine wk_b tt_305 6 (pc' := 30) (ls' := [(0, .inr (.inr (.ref 88))), (1, .inl (a1)), (2, .inl (a2))]) (st' := []) (σ' := (sg_w σ5 88 31 (((sg_g σ5 88 31) + 1)))) rfl ?_
  rw [show (sg_g σ5 88 31) = (sg_g σ 88 31) from by rw [sg_F_ga hF7 rfl, sg_F_ga hF4 rfl]]
  generalize hs10 : (sg_w σ5 88 31 (((sg_g σ 88 31) + 1))) = σ9
  have w := w σ9 hs10.symm
  have hF11 : sg_F [32088] σ5 σ9 := by rw [← hs10]; exact sg_F_w (sg_F_r _ _) rfl _
  exact wk_rV tt_305 rfl rfl ⟨rfl, (sg_F_t (sg_F_t (sg_F_t (sg_F_r [110, 111, 32088] σ) (sg_F_m (L := [110, 111, 32088]) hF4 rfl)) (sg_F_m (L := [110, 111, 32088]) hF7 rfl)) (sg_F_m (L := [110, 111, 32088]) hF11 rfl)), w⟩
-- NestedVectorsModel.newNode
def V_newNode (σ : sg_S) (a1 : Int) (Q : Int → sg_S → Prop) : Prop := ((¬ (sg_g σ 88 8) = 200 → (0 ≤ (sg_g σ 88 8) ∧ (sg_g σ 88 8) < 210) ∧ ∀ σ3, σ3 = (sg_w σ 93 ((sg_g σ 88 8)) (a1)) → (0 ≤ (sg_g σ 88 7) ∧ (sg_g σ 88 7) < 1210) ∧ ∀ σ7, σ7 = (sg_w σ3 94 ((sg_g σ 88 8)) ((sg_g σ 91 ((sg_g σ 88 7))))) → ∀ σ10, σ10 = (sg_wl σ7 95 ((sg_g σ 88 8)) ((sg_gl σ 92 ((sg_g σ 88 7))))) → ∀ σ13, σ13 = (sg_w σ10 96 ((sg_g σ 88 8)) (0)) → ∀ σ16, σ16 = (sg_w σ13 98 ((sg_g σ 88 8)) (0)) → sg_R ((sg_g σ 88 8) + 1) ∧ ∀ σ20, σ20 = (sg_w σ16 88 8 (((sg_g σ 88 8) + 1))) → sg_R (((sg_g σ 88 8) + 1) - 1) ∧ Q ((((sg_g σ 88 8) + 1) - 1)) σ20) ∧ ((sg_g σ 88 8) = 200 → (0 ≤ (sg_g σ 88 7) ∧ (sg_g σ 88 7) < 1210) ∧ V_wrong σ (1) ((sg_g σ 91 ((sg_g σ 88 7)))) (fun σ26 => sg_F [30088, 31088] σ σ26 → Q (0) σ26)))
set_option maxHeartbeats 4000000 in
set_option maxRecDepth 8000 in
theorem w_newNode (z : Value) (σ : sg_S) (a1 : Int) (Q : Int → sg_S → Prop) (ra1 : sg_R a1) (w : V_newNode σ a1 Q) : wx z 1 294 0 [(0, .inr (.inr (.ref 88))), (1, .inl (a1))] [] σ (fun v σ' => ∃ q, v = some (.inl q) ∧ sg_R q ∧ sg_F [93, 94, 95, 96, 98, 9088, 30088, 31088] σ σ' ∧ Q q σ') := by
  unfold V_newNode at w
  refine wk_b tt_294 3 (pc' := 7) (ls' := [(0, .inr (.inr (.ref 88))), (1, .inl (a1))]) (st' := [.inl (200), .inl ((sg_g σ 88 8))]) (σ' := σ) rfl ?_
  refine wk_if2 tt_294 (tgt := 26) rfl rfl (sg_Rg _ _ _) (by decide) (fun (h1 : ¬ (sg_g σ 88 8) = 200) => ?_) (fun (h1 : (sg_g σ 88 8) = 200) => ?_)
  ·
    have w := w.1 h1
    refine wk_b tt_294 5 (pc' := 35) (ls' := [(0, .inr (.inr (.ref 88))), (1, .inl (a1))]) (st' := [.inl (a1), .inl ((sg_g σ 88 8)), .inr (.inr (.ref 93))]) (σ' := σ) rfl ?_
    obtain ⟨c2, w⟩ := w
    refine wk_is tt_294 rfl rfl c2.1 c2.2 (sg_Rg _ _ _) ?_
    generalize hs4 : (sg_w σ 93 ((sg_g σ 88 8)) (a1)) = σ3
    have w := w σ3 hs4.symm
    have hF5 : sg_F [93] σ σ3 := by rw [← hs4]; exact sg_F_w (sg_F_r _ _) rfl _
    refine wk_b tt_294 8 (pc' := 52) (ls' := [(0, .inr (.inr (.ref 88))), (1, .inl (a1))]) (st' := [.inl ((sg_g σ3 88 7)), .inr (.inr (.ref 91)), .inl ((sg_g σ3 88 8)), .inr (.inr (.ref 94))]) (σ' := σ3) rfl ?_
    rw [show (sg_g σ3 88 8) = (sg_g σ 88 8) from by rw [sg_F_ga hF5 rfl]]
    rw [show (sg_g σ3 88 7) = (sg_g σ 88 7) from by rw [sg_F_ga hF5 rfl]]
    obtain ⟨c6, w⟩ := w
    refine wk_ia tt_294 rfl rfl c6.1 c6.2 (sg_Rg _ _ _) ?_
    rw [show (sg_g σ3 91 ((sg_g σ 88 7))) = (sg_g σ 91 ((sg_g σ 88 7))) from by rw [sg_F_ga hF5 rfl]]
    refine wk_is tt_294 rfl rfl c2.1 c2.2 (sg_Rg _ _ _) ?_
    generalize hs8 : (sg_w σ3 94 ((sg_g σ 88 8)) ((sg_g σ 91 ((sg_g σ 88 7))))) = σ7
    have w := w σ7 hs8.symm
    have hF9 : sg_F [94] σ3 σ7 := by rw [← hs8]; exact sg_F_w (sg_F_r _ _) rfl _
    refine wk_b tt_294 8 (pc' := 70) (ls' := [(0, .inr (.inr (.ref 88))), (1, .inl (a1))]) (st' := [.inl ((sg_g σ7 88 7)), .inr (.inr (.ref 92)), .inl ((sg_g σ7 88 8)), .inr (.inr (.ref 95))]) (σ' := σ7) rfl ?_
    rw [show (sg_g σ7 88 8) = (sg_g σ 88 8) from by rw [sg_F_ga hF9 rfl, sg_F_ga hF5 rfl]]
    rw [show (sg_g σ7 88 7) = (sg_g σ 88 7) from by rw [sg_F_ga hF9 rfl, sg_F_ga hF5 rfl]]
    refine wk_la tt_294 rfl rfl c6.1 c6.2 (sg_Rg _ _ _) ?_
    rw [show (sg_gl σ7 92 ((sg_g σ 88 7))) = (sg_gl σ 92 ((sg_g σ 88 7))) from by rw [sg_F_gal hF9 rfl, sg_F_gal hF5 rfl]]
    refine wk_lS tt_294 rfl rfl c2.1 c2.2 (sg_Rg _ _ _) ?_
    generalize hs11 : (sg_wl σ7 95 ((sg_g σ 88 8)) ((sg_gl σ 92 ((sg_g σ 88 7))))) = σ10
    have w := w σ10 hs11.symm
    have hF12 : sg_F [95] σ7 σ10 := by rw [← hs11]; exact sg_F_wl (sg_F_r _ _) rfl _
    refine wk_b tt_294 5 (pc' := 81) (ls' := [(0, .inr (.inr (.ref 88))), (1, .inl (a1))]) (st' := [.inl (0), .inl ((sg_g σ10 88 8)), .inr (.inr (.ref 96))]) (σ' := σ10) rfl ?_
    rw [show (sg_g σ10 88 8) = (sg_g σ 88 8) from by rw [sg_F_ga hF12 rfl, sg_F_ga hF9 rfl, sg_F_ga hF5 rfl]]
    refine wk_is tt_294 rfl rfl c2.1 c2.2 (sg_Rg _ _ _) ?_
    generalize hs14 : (sg_w σ10 96 ((sg_g σ 88 8)) (0)) = σ13
    have w := w σ13 hs14.symm
    have hF15 : sg_F [96] σ10 σ13 := by rw [← hs14]; exact sg_F_w (sg_F_r _ _) rfl _
    refine wk_b tt_294 5 (pc' := 91) (ls' := [(0, .inr (.inr (.ref 88))), (1, .inl (a1))]) (st' := [.inl (0), .inl ((sg_g σ13 88 8)), .inr (.inr (.ref 98))]) (σ' := σ13) rfl ?_
    rw [show (sg_g σ13 88 8) = (sg_g σ 88 8) from by rw [sg_F_ga hF15 rfl, sg_F_ga hF12 rfl, sg_F_ga hF9 rfl, sg_F_ga hF5 rfl]]
    refine wk_is tt_294 rfl rfl c2.1 c2.2 (sg_Rg _ _ _) ?_
    generalize hs17 : (sg_w σ13 98 ((sg_g σ 88 8)) (0)) = σ16
    have w := w σ16 hs17.symm
    have hF18 : sg_F [98] σ13 σ16 := by rw [← hs17]; exact sg_F_w (sg_F_r _ _) rfl _
    obtain ⟨c19, w⟩ := w
    refine wk_b tt_294 6 (pc' := 102) (ls' := [(0, .inr (.inr (.ref 88))), (1, .inl (a1))]) (st' := []) (σ' := (sg_w σ16 88 8 (((sg_g σ16 88 8) + 1)))) rfl ?_
    rw [show (sg_g σ16 88 8) = (sg_g σ 88 8) from by rw [sg_F_ga hF18 rfl, sg_F_ga hF15 rfl, sg_F_ga hF12 rfl, sg_F_ga hF9 rfl, sg_F_ga hF5 rfl]]
    generalize hs21 : (sg_w σ16 88 8 (((sg_g σ 88 8) + 1))) = σ20
    have w := w σ20 hs21.symm
    have hF22 : sg_F [9088] σ16 σ20 := by rw [← hs21]; exact sg_F_w (sg_F_r _ _) rfl _
    obtain ⟨c23, w⟩ := w
    refine wk_b tt_294 4 (pc' := 108) (ls' := [(0, .inr (.inr (.ref 88))), (1, .inl (a1))]) (st' := [.inl (((sg_g σ20 88 8) - 1))]) (σ' := σ20) rfl ?_
    rw [show (sg_g σ20 88 8) = ((sg_g σ 88 8) + 1) from by rw [(show sg_g σ20 88 8 = ((sg_g σ 88 8) + 1) from by rw [← hs21]; exact sg_gw_e _ _ _ _ c19)]]
    exact wk_rI tt_294 rfl rfl ⟨_, rfl, c23, (sg_F_t (sg_F_t (sg_F_t (sg_F_t (sg_F_t (sg_F_t (sg_F_r [93, 94, 95, 96, 98, 9088, 30088, 31088] σ) (sg_F_m (L := [93, 94, 95, 96, 98, 9088, 30088, 31088]) hF5 rfl)) (sg_F_m (L := [93, 94, 95, 96, 98, 9088, 30088, 31088]) hF9 rfl)) (sg_F_m (L := [93, 94, 95, 96, 98, 9088, 30088, 31088]) hF12 rfl)) (sg_F_m (L := [93, 94, 95, 96, 98, 9088, 30088, 31088]) hF15 rfl)) (sg_F_m (L := [93, 94, 95, 96, 98, 9088, 30088, 31088]) hF18 rfl)) (sg_F_m (L := [93, 94, 95, 96, 98, 9088, 30088, 31088]) hF22 rfl)), w⟩
  ·
    have w := w.2 h1
    refine wk_b tt_294 6 (pc' := 20) (ls' := [(0, .inr (.inr (.ref 88))), (1, .inl (a1))]) (st' := [.inl ((sg_g σ 88 7)), .inr (.inr (.ref 91)), .inl (1), .inr (.inr (.ref 88))]) (σ' := σ) rfl ?_
    obtain ⟨c24, w⟩ := w
    refine wk_ia tt_294 rfl rfl c24.1 c24.2 (sg_Rg _ _ _) ?_
    refine wk_call tt_294 rfl rfl rfl rfl rfl tt_336 rfl (by decide) (w_wrong z σ (1) ((sg_g σ 91 ((sg_g σ 88 7)))) _ (by decide) (sg_Rg _ _ _) w) (fun u30 σ26 hq28 => ?_)
    obtain ⟨rfl, hF27, w⟩ := hq28
    have w := w hF27
    refine wk_b tt_294 1 (pc' := 25) (ls' := [(0, .inr (.inr (.ref 88))), (1, .inl (a1))]) (st' := [.inl (0)]) (σ' := σ26) rfl ?_
    exact wk_rI tt_294 rfl rfl ⟨_, rfl, (by decide), (sg_F_t (sg_F_r [93, 94, 95, 96, 98, 9088, 30088, 31088] σ) (sg_F_m (L := [93, 94, 95, 96, 98, 9088, 30088, 31088]) hF27 rfl)), w⟩
-- NestedVectorsModel.want
def V_want (σ : sg_S) (a1 : Int) (Q : sg_S → Prop) : Prop := (∃ P3 : sg_S → Prop, ((¬ a1 = 0 → P3 σ) ∧ (a1 = 0 → (0 ≤ (sg_g σ 88 7) ∧ (sg_g σ 88 7) < 1210) ∧ V_wrong σ (1) ((sg_g σ 91 ((sg_g σ 88 7)))) (fun σ14 => sg_F [30088, 31088] σ σ14 → P3 σ14))) ∧ (∀ (σ4 : sg_S), sg_F [30088, 31088] σ σ4 → P3 σ4 → ((¬ (sg_g σ4 88 29) = 0 → Q σ4) ∧ ((sg_g σ4 88 29) = 0 → sg_R ((sg_g σ 88 7) + 1) ∧ ∀ σ9, σ9 = (sg_w σ4 88 7 (((sg_g σ 88 7) + 1))) → Q σ9))))
set_option maxHeartbeats 4000000 in
set_option maxRecDepth 8000 in
theorem w_want (z : Value) (σ : sg_S) (a1 : Int) (Q : sg_S → Prop) (ra1 : sg_R a1) (w : V_want σ a1 Q) : wx z 1 334 0 [(0, .inr (.inr (.ref 88))), (1, .inl (a1))] [] σ (fun v σ' => v = none ∧ sg_F [8088, 30088, 31088] σ σ' ∧ Q σ') := by
  unfold V_want at w
  refine wk_b tt_334 1 (pc' := 1) (ls' := [(0, .inr (.inr (.ref 88))), (1, .inl (a1))]) (st' := [.inl (a1)]) (σ' := σ) rfl ?_
  obtain ⟨P3, w, w6⟩ := w
  have jn2 : ∀ (σ4 : sg_S), sg_F [30088, 31088] σ σ4 → P3 σ4 → wx z 1 334 18 [(0, .inr (.inr (.ref 88)))] [] σ4 (fun v σ' => v = none ∧ sg_F [8088, 30088, 31088] σ σ' ∧ Q σ') := by
    intro σ4 hF5 w
    have w := w6 σ4 hF5 w
    refine wk_b tt_334 2 (pc' := 22) (ls' := [(0, .inr (.inr (.ref 88)))]) (st' := [.inl ((sg_g σ4 88 29))]) (σ' := σ4) rfl ?_
    refine wk_if tt_334 (tgt := 35) rfl rfl (sg_Rg _ _ _) (fun (h7 : ¬ (sg_g σ4 88 29) = 0) => ?_) (fun (h7 : (sg_g σ4 88 29) = 0) => ?_)
    ·
      have w := w.1 h7
      exact wk_rV tt_334 rfl rfl ⟨rfl, (sg_F_t (sg_F_r [8088, 30088, 31088] σ) (sg_F_m (L := [8088, 30088, 31088]) hF5 rfl)), w⟩
    ·
      have w := w.2 h7
      obtain ⟨c8, w⟩ := w
      refine wk_b tt_334 6 (pc' := 35) (ls' := [(0, .inr (.inr (.ref 88)))]) (st' := []) (σ' := (sg_w σ4 88 7 (((sg_g σ4 88 7) + 1)))) rfl ?_
      rw [show (sg_g σ4 88 7) = (sg_g σ 88 7) from by rw [sg_F_g hF5 rfl]]
      generalize hs10 : (sg_w σ4 88 7 (((sg_g σ 88 7) + 1))) = σ9
      have w := w σ9 hs10.symm
      have hF11 : sg_F [8088] σ4 σ9 := by rw [← hs10]; exact sg_F_w (sg_F_r _ _) rfl _
      exact wk_rV tt_334 rfl rfl ⟨rfl, (sg_F_t (sg_F_t (sg_F_r [8088, 30088, 31088] σ) (sg_F_m (L := [8088, 30088, 31088]) hF5 rfl)) (sg_F_m (L := [8088, 30088, 31088]) hF11 rfl)), w⟩
  refine wk_if tt_334 (tgt := 18) rfl rfl ra1 (fun (h1 : ¬ a1 = 0) => ?_) (fun (h1 : a1 = 0) => ?_)
  ·
    have w := w.1 h1
    exact wk_ls [(0, .inr (.inr (.ref 88)))] rfl ⟨rfl, trivial⟩ (jn2 σ (sg_F_r [30088, 31088] σ) w)
  ·
    have w := w.2 h1
    refine wk_b tt_334 6 (pc' := 14) (ls' := [(0, .inr (.inr (.ref 88))), (1, .inl (a1))]) (st' := [.inl ((sg_g σ 88 7)), .inr (.inr (.ref 91)), .inl (1), .inr (.inr (.ref 88))]) (σ' := σ) rfl ?_
    obtain ⟨c12, w⟩ := w
    refine wk_ia tt_334 rfl rfl c12.1 c12.2 (sg_Rg _ _ _) ?_
    refine wk_call tt_334 rfl rfl rfl rfl rfl tt_336 rfl (by decide) (w_wrong z σ (1) ((sg_g σ 91 ((sg_g σ 88 7)))) _ (by decide) (sg_Rg _ _ _) w) (fun u18 σ14 hq16 => ?_)
    obtain ⟨rfl, hF15, w⟩ := hq16
    have w := w hF15
    exact wk_ls [(0, .inr (.inr (.ref 88)))] rfl ⟨rfl, trivial⟩ (jn2 σ14 (sg_F_t (sg_F_r [30088, 31088] σ) (sg_F_m (L := [30088, 31088]) hF15 rfl)) w)
/-! Conditions of the reference's methods, by program (29). -/
-- NestedVectorsModel.isReserved
def v_isReserved  (a0 : Int) : Int := (if ¬ (v_actOf (a0)) = 0 then (1 : Int) else (if a0 = 6606 then (1 : Int) else (if a0 = 19420 then (1 : Int) else (if a0 = 374 then (1 : Int) else (if a0 = 366 then (1 : Int) else (if a0 = 1293014 then (1 : Int) else (if ¬ a0 = 339965 then (0 : Int) else (1 : Int))))))))
theorem vz_isReserved  {a0 : Int} : v_isReserved a0 = 0 ∨ v_isReserved a0 = 1 := by
  unfold v_isReserved
  by_cases h : ¬ (v_actOf (a0)) = 0
  · rw [if_pos h]
    exact Or.inr rfl
  · rw [if_neg h]
    by_cases h : a0 = 6606
    · rw [if_pos h]
      exact Or.inr rfl
    · rw [if_neg h]
      by_cases h : a0 = 19420
      · rw [if_pos h]
        exact Or.inr rfl
      · rw [if_neg h]
        by_cases h : a0 = 374
        · rw [if_pos h]
          exact Or.inr rfl
        · rw [if_neg h]
          by_cases h : a0 = 366
          · rw [if_pos h]
            exact Or.inr rfl
          · rw [if_neg h]
            by_cases h : a0 = 1293014
            · rw [if_pos h]
              exact Or.inr rfl
            · rw [if_neg h]
              by_cases h : ¬ a0 = 339965
              · rw [if_pos h]
                exact Or.inl rfl
              · rw [if_neg h]
                exact Or.inr rfl
set_option maxHeartbeats 4000000 in
set_option maxRecDepth 8000 in
theorem w_isReserved (z : Value) (σ : sg_S) (a0 : Int) (ra0 : sg_RL a0) : wx z 4 266 0 [(0, .inr (.inl (a0)))] [] σ (fun v σ' => v = some (.inl (v_isReserved a0)) ∧ σ' = σ) := by
  refine wk_b tt_266 1 (pc' := 1) (ls' := [(0, .inr (.inl (a0)))]) (st' := [.inr (.inl (a0))]) (σ' := σ) rfl ?_
  refine wk_callp tt_266 rfl rfl rfl rfl rfl tt_210 rfl (by decide) (w_actOf z σ (a0) ra0 ) ?_
  have r1 := vr_actOf  (a0) ra0 
  refine wk_if tt_266 (tgt := 73) rfl rfl r1 (fun (h2 : ¬ (v_actOf (a0)) = 0) => ?_) (fun (h2 : (v_actOf (a0)) = 0) => ?_)
  ·
    refine wk_b tt_266 2 (pc' := 78) (ls' := [(0, .inr (.inl (a0)))]) (st' := [.inl (1)]) (σ' := σ) rfl ?_
    exact wk_rZ tt_266 rfl rfl (by decide) ⟨by rw [v_isReserved, if_pos h2], rfl⟩
  ·
    refine wk_b tt_266 2 (pc' := 11) (ls' := [(0, .inr (.inl (a0)))]) (st' := [.inr (.inl (6579558)), .inr (.inl (a0))]) (σ' := σ) rfl ?_
    refine wk_callp tt_266 rfl rfl rfl rfl rfl tt_332 rfl (by decide) (w_told_6579558 z σ) ?_
    refine wk_lcif tt_266 (tgt := 73) rfl rfl rfl ra0 (by decide) (fun (h3 : a0 = 6606) => ?_) (fun (h3 : ¬ a0 = 6606) => ?_)
    ·
      refine wk_b tt_266 2 (pc' := 78) (ls' := [(0, .inr (.inl (a0)))]) (st' := [.inl (1)]) (σ' := σ) rfl ?_
      exact wk_rZ tt_266 rfl rfl (by decide) ⟨by rw [v_isReserved, if_neg (show ¬ (¬ (v_actOf (a0)) = 0) by omega), if_pos h3], rfl⟩
    ·
      refine wk_b tt_266 2 (pc' := 22) (ls' := [(0, .inr (.inl (a0)))]) (st' := [.inr (.inl (7103860)), .inr (.inl (a0))]) (σ' := σ) rfl ?_
      refine wk_callp tt_266 rfl rfl rfl rfl rfl tt_332 rfl (by decide) (w_told_7103860 z σ) ?_
      refine wk_lcif tt_266 (tgt := 73) rfl rfl rfl ra0 (by decide) (fun (h4 : a0 = 19420) => ?_) (fun (h4 : ¬ a0 = 19420) => ?_)
      ·
        refine wk_b tt_266 2 (pc' := 78) (ls' := [(0, .inr (.inl (a0)))]) (st' := [.inl (1)]) (σ' := σ) rfl ?_
        exact wk_rZ tt_266 rfl rfl (by decide) ⟨by rw [v_isReserved, if_neg (show ¬ (¬ (v_actOf (a0)) = 0) by omega), if_neg (show ¬ (a0 = 6606) by omega), if_pos h4], rfl⟩
      ·
        refine wk_b tt_266 2 (pc' := 33) (ls' := [(0, .inr (.inl (a0)))]) (st' := [.inr (.inl (26990)), .inr (.inl (a0))]) (σ' := σ) rfl ?_
        refine wk_callp tt_266 rfl rfl rfl rfl rfl tt_332 rfl (by decide) (w_told_26990 z σ) ?_
        refine wk_lcif tt_266 (tgt := 73) rfl rfl rfl ra0 (by decide) (fun (h5 : a0 = 374) => ?_) (fun (h5 : ¬ a0 = 374) => ?_)
        ·
          refine wk_b tt_266 2 (pc' := 78) (ls' := [(0, .inr (.inl (a0)))]) (st' := [.inl (1)]) (σ' := σ) rfl ?_
          exact wk_rZ tt_266 rfl rfl (by decide) ⟨by rw [v_isReserved, if_neg (show ¬ (¬ (v_actOf (a0)) = 0) by omega), if_neg (show ¬ (a0 = 6606) by omega), if_neg (show ¬ (a0 = 19420) by omega), if_pos h5], rfl⟩
        ·
          refine wk_b tt_266 2 (pc' := 44) (ls' := [(0, .inr (.inl (a0)))]) (st' := [.inr (.inl (26982)), .inr (.inl (a0))]) (σ' := σ) rfl ?_
          refine wk_callp tt_266 rfl rfl rfl rfl rfl tt_332 rfl (by decide) (w_told_26982 z σ) ?_
          refine wk_lcif tt_266 (tgt := 73) rfl rfl rfl ra0 (by decide) (fun (h6 : a0 = 366) => ?_) (fun (h6 : ¬ a0 = 366) => ?_)
          ·
            refine wk_b tt_266 2 (pc' := 78) (ls' := [(0, .inr (.inl (a0)))]) (st' := [.inl (1)]) (σ' := σ) rfl ?_
            exact wk_rZ tt_266 rfl rfl (by decide) ⟨by rw [v_isReserved, if_neg (show ¬ (¬ (v_actOf (a0)) = 0) by omega), if_neg (show ¬ (a0 = 6606) by omega), if_neg (show ¬ (a0 = 19420) by omega), if_neg (show ¬ (a0 = 374) by omega), if_pos h6], rfl⟩
          ·
            refine wk_b tt_266 2 (pc' := 55) (ls' := [(0, .inr (.inl (a0)))]) (st' := [.inr (.inl (1952998766)), .inr (.inl (a0))]) (σ' := σ) rfl ?_
            refine wk_callp tt_266 rfl rfl rfl rfl rfl tt_332 rfl (by decide) (w_told_1952998766 z σ) ?_
            refine wk_lcif tt_266 (tgt := 73) rfl rfl rfl ra0 (by decide) (fun (h7 : a0 = 1293014) => ?_) (fun (h7 : ¬ a0 = 1293014) => ?_)
            ·
              refine wk_b tt_266 2 (pc' := 78) (ls' := [(0, .inr (.inl (a0)))]) (st' := [.inl (1)]) (σ' := σ) rfl ?_
              exact wk_rZ tt_266 rfl rfl (by decide) ⟨by rw [v_isReserved, if_neg (show ¬ (¬ (v_actOf (a0)) = 0) by omega), if_neg (show ¬ (a0 = 6606) by omega), if_neg (show ¬ (a0 = 19420) by omega), if_neg (show ¬ (a0 = 374) by omega), if_neg (show ¬ (a0 = 366) by omega), if_pos h7], rfl⟩
            ·
              refine wk_b tt_266 2 (pc' := 66) (ls' := [(0, .inr (.inl (a0)))]) (st' := [.inr (.inl (1701606245)), .inr (.inl (a0))]) (σ' := σ) rfl ?_
              refine wk_callp tt_266 rfl rfl rfl rfl rfl tt_332 rfl (by decide) (w_told_1701606245 z σ) ?_
              refine wk_lcif tt_266 (tgt := 77) rfl rfl rfl ra0 (by decide) (fun (h8 : ¬ a0 = 339965) => ?_) (fun (h8 : a0 = 339965) => ?_)
              ·
                refine wk_b tt_266 1 (pc' := 78) (ls' := [(0, .inr (.inl (a0)))]) (st' := [.inl (0)]) (σ' := σ) rfl ?_
                exact wk_rZ tt_266 rfl rfl (by decide) ⟨by rw [v_isReserved, if_neg (show ¬ (¬ (v_actOf (a0)) = 0) by omega), if_neg (show ¬ (a0 = 6606) by omega), if_neg (show ¬ (a0 = 19420) by omega), if_neg (show ¬ (a0 = 374) by omega), if_neg (show ¬ (a0 = 366) by omega), if_neg (show ¬ (a0 = 1293014) by omega), if_pos h8], rfl⟩
              ·
                refine wk_b tt_266 2 (pc' := 78) (ls' := [(0, .inr (.inl (a0)))]) (st' := [.inl (1)]) (σ' := σ) rfl ?_
                exact wk_rZ tt_266 rfl rfl (by decide) ⟨by rw [v_isReserved, if_neg (show ¬ (¬ (v_actOf (a0)) = 0) by omega), if_neg (show ¬ (a0 = 6606) by omega), if_neg (show ¬ (a0 = 19420) by omega), if_neg (show ¬ (a0 = 374) by omega), if_neg (show ¬ (a0 = 366) by omega), if_neg (show ¬ (a0 = 1293014) by omega), if_neg (show ¬ (¬ a0 = 339965) by omega)], rfl⟩
-- NestedVectorsModel.isName
def v_isName (σ : sg_S) : Int := (if ¬ (sg_g σ 90 ((sg_g σ 88 7))) = 2 then (0 : Int) else (if ¬ (v_isReserved ((sg_gl σ 92 ((sg_g σ 88 7))))) = 0 then (0 : Int) else (1 : Int)))
def p_isName (σ : sg_S) : Prop := (0 ≤ (sg_g σ 88 7) ∧ (sg_g σ 88 7) < 1210) ∧ ((¬ (sg_g σ 90 ((sg_g σ 88 7))) = 2 → True) ∧ ((sg_g σ 90 ((sg_g σ 88 7))) = 2 → ((¬ (v_isReserved ((sg_gl σ 92 ((sg_g σ 88 7))))) = 0 → True) ∧ ((v_isReserved ((sg_gl σ 92 ((sg_g σ 88 7))))) = 0 → True))))
theorem vz_isName {σ : sg_S} : v_isName σ  = 0 ∨ v_isName σ  = 1 := by
  unfold v_isName
  by_cases h : ¬ (sg_g σ 90 ((sg_g σ 88 7))) = 2
  · rw [if_pos h]
    exact Or.inl rfl
  · rw [if_neg h]
    by_cases h : ¬ (v_isReserved ((sg_gl σ 92 ((sg_g σ 88 7))))) = 0
    · rw [if_pos h]
      exact Or.inl rfl
    · rw [if_neg h]
      exact Or.inr rfl
set_option maxHeartbeats 4000000 in
set_option maxRecDepth 8000 in
theorem w_isName (z : Value) (σ : sg_S)  (w : p_isName σ ) : wx z 5 264 0 [(0, .inr (.inr (.ref 88)))] [] σ (fun v σ' => v = some (.inl (v_isName σ )) ∧ σ' = σ) := by
  unfold p_isName at w
  refine wk_b tt_264 4 (pc' := 8) (ls' := [(0, .inr (.inr (.ref 88)))]) (st' := [.inl ((sg_g σ 88 7)), .inr (.inr (.ref 90))]) (σ' := σ) rfl ?_
  obtain ⟨c1, w⟩ := w
  refine wk_ia tt_264 rfl rfl c1.1 c1.2 (sg_Rg _ _ _) ?_
  refine wk_b tt_264 1 (pc' := 10) (ls' := [(0, .inr (.inr (.ref 88)))]) (st' := [.inl (2), .inl ((sg_g σ 90 ((sg_g σ 88 7))))]) (σ' := σ) rfl ?_
  refine wk_if2 tt_264 (tgt := 32) rfl rfl (sg_Rg _ _ _) (by decide) (fun (h2 : ¬ (sg_g σ 90 ((sg_g σ 88 7))) = 2) => ?_) (fun (h2 : (sg_g σ 90 ((sg_g σ 88 7))) = 2) => ?_)
  ·
    have w := w.1 h2
    refine wk_b tt_264 1 (pc' := 33) (ls' := [(0, .inr (.inr (.ref 88)))]) (st' := [.inl (0)]) (σ' := σ) rfl ?_
    exact wk_rZ tt_264 rfl rfl (by decide) ⟨by rw [v_isName, if_pos h2], rfl⟩
  ·
    have w := w.2 h2
    refine wk_b tt_264 4 (pc' := 21) (ls' := [(0, .inr (.inr (.ref 88)))]) (st' := [.inl ((sg_g σ 88 7)), .inr (.inr (.ref 92))]) (σ' := σ) rfl ?_
    refine wk_la tt_264 rfl rfl c1.1 c1.2 (sg_Rg _ _ _) ?_
    refine wk_callp tt_264 rfl rfl rfl rfl rfl tt_266 rfl (by decide) (w_isReserved z σ ((sg_gl σ 92 ((sg_g σ 88 7)))) (sg_Rgl _ _ _) ) ?_
    refine wk_if tt_264 (tgt := 32) rfl rfl (sg_Rz (vz_isReserved ..)) (fun (h3 : ¬ (v_isReserved ((sg_gl σ 92 ((sg_g σ 88 7))))) = 0) => ?_) (fun (h3 : (v_isReserved ((sg_gl σ 92 ((sg_g σ 88 7))))) = 0) => ?_)
    ·
      have w := w.1 h3
      refine wk_b tt_264 1 (pc' := 33) (ls' := [(0, .inr (.inr (.ref 88)))]) (st' := [.inl (0)]) (σ' := σ) rfl ?_
      exact wk_rZ tt_264 rfl rfl (by decide) ⟨by rw [v_isName, if_neg (show ¬ (¬ (sg_g σ 90 ((sg_g σ 88 7))) = 2) by omega), if_pos h3], rfl⟩
    ·
      have w := w.2 h3
      refine wk_b tt_264 2 (pc' := 33) (ls' := [(0, .inr (.inr (.ref 88)))]) (st' := [.inl (1)]) (σ' := σ) rfl ?_
      exact wk_rZ tt_264 rfl rfl (by decide) ⟨by rw [v_isName, if_neg (show ¬ (¬ (sg_g σ 90 ((sg_g σ 88 7))) = 2) by omega), if_neg (show ¬ (¬ (v_isReserved ((sg_gl σ 92 ((sg_g σ 88 7))))) = 0) by omega)], rfl⟩
theorem vF_isName {L : List Nat} {σ σ' : sg_S} (hF : sg_F L σ σ') (h0 : sg_cv L 88 7 = false) (h1 : sg_ca L 90 = true) (h2 : sg_ca L 92 = true) : v_isName σ'  = v_isName σ  := by
  unfold v_isName
  simp only [sg_F_g hF h0, sg_F_gl hF h0, sg_F_ga (k := _) hF h1, sg_F_gal (k := _) hF h1, sg_F_ga (k := _) hF h2, sg_F_gal (k := _) hF h2, vF_isWord hF h0 h1 h2, pF_isWord hF h0 h1 h2]
theorem pF_isName {L : List Nat} {σ σ' : sg_S} (hF : sg_F L σ σ') (h0 : sg_cv L 88 7 = false) (h1 : sg_ca L 90 = true) (h2 : sg_ca L 92 = true) : p_isName σ'  = p_isName σ  := by
  unfold p_isName
  simp only [sg_F_g hF h0, sg_F_gl hF h0, sg_F_ga (k := _) hF h1, sg_F_gal (k := _) hF h1, sg_F_ga (k := _) hF h2, sg_F_gal (k := _) hF h2, vF_isWord hF h0 h1 h2, pF_isWord hF h0 h1 h2]
-- NestedVectorsModel.isSignNow
def v_isSignNow (σ : sg_S) (a1 : Int) : Int := (if ¬ (sg_g σ 90 ((sg_g σ 88 7))) = 3 then (0 : Int) else (if ¬ (sg_gl σ 92 ((sg_g σ 88 7))) = a1 then (0 : Int) else (1 : Int)))
def p_isSignNow (σ : sg_S) (a1 : Int) : Prop := (0 ≤ (sg_g σ 88 7) ∧ (sg_g σ 88 7) < 1210) ∧ ((¬ (sg_g σ 90 ((sg_g σ 88 7))) = 3 → True) ∧ ((sg_g σ 90 ((sg_g σ 88 7))) = 3 → ((¬ (sg_gl σ 92 ((sg_g σ 88 7))) = a1 → True) ∧ ((sg_gl σ 92 ((sg_g σ 88 7))) = a1 → True))))
theorem vz_isSignNow {σ : sg_S} {a1 : Int} : v_isSignNow σ a1 = 0 ∨ v_isSignNow σ a1 = 1 := by
  unfold v_isSignNow
  by_cases h : ¬ (sg_g σ 90 ((sg_g σ 88 7))) = 3
  · rw [if_pos h]
    exact Or.inl rfl
  · rw [if_neg h]
    by_cases h : ¬ (sg_gl σ 92 ((sg_g σ 88 7))) = a1
    · rw [if_pos h]
      exact Or.inl rfl
    · rw [if_neg h]
      exact Or.inr rfl
set_option maxHeartbeats 4000000 in
set_option maxRecDepth 8000 in
theorem w_isSignNow (z : Value) (σ : sg_S) (a1 : Int) (ra1 : sg_R a1) (w : p_isSignNow σ a1) : wx z 0 268 0 [(0, .inr (.inr (.ref 88))), (1, .inl (a1))] [] σ (fun v σ' => v = some (.inl (v_isSignNow σ a1)) ∧ σ' = σ) := by
  unfold p_isSignNow at w
  refine wk_b tt_268 4 (pc' := 8) (ls' := [(0, .inr (.inr (.ref 88))), (1, .inl (a1))]) (st' := [.inl ((sg_g σ 88 7)), .inr (.inr (.ref 90))]) (σ' := σ) rfl ?_
  obtain ⟨c1, w⟩ := w
  refine wk_ia tt_268 rfl rfl c1.1 c1.2 (sg_Rg _ _ _) ?_
  refine wk_b tt_268 1 (pc' := 10) (ls' := [(0, .inr (.inr (.ref 88))), (1, .inl (a1))]) (st' := [.inl (3), .inl ((sg_g σ 90 ((sg_g σ 88 7))))]) (σ' := σ) rfl ?_
  refine wk_if2 tt_268 (tgt := 32) rfl rfl (sg_Rg _ _ _) (by decide) (fun (h2 : ¬ (sg_g σ 90 ((sg_g σ 88 7))) = 3) => ?_) (fun (h2 : (sg_g σ 90 ((sg_g σ 88 7))) = 3) => ?_)
  ·
    have w := w.1 h2
    refine wk_b tt_268 1 (pc' := 33) (ls' := [(0, .inr (.inr (.ref 88))), (1, .inl (a1))]) (st' := [.inl (0)]) (σ' := σ) rfl ?_
    exact wk_rZ tt_268 rfl rfl (by decide) ⟨by rw [v_isSignNow, if_pos h2], rfl⟩
  ·
    have w := w.2 h2
    refine wk_b tt_268 4 (pc' := 21) (ls' := [(0, .inr (.inr (.ref 88))), (1, .inl (a1))]) (st' := [.inl ((sg_g σ 88 7)), .inr (.inr (.ref 92))]) (σ' := σ) rfl ?_
    refine wk_la tt_268 rfl rfl c1.1 c1.2 (sg_Rg _ _ _) ?_
    refine wk_b tt_268 2 (pc' := 24) (ls' := [(0, .inr (.inr (.ref 88))), (1, .inl (a1))]) (st' := [.inr (.inl ((sg_n (a1)))), .inr (.inl ((sg_gl σ 92 ((sg_g σ 88 7)))))]) (σ' := σ) rfl ?_
    rw [show (sg_n (a1)) = a1 from by rw [sg_id ra1]]
    refine wk_lcif tt_268 (tgt := 32) rfl rfl rfl (sg_Rgl _ _ _) (sg_Rgl2 ra1) (fun (h3 : ¬ (sg_gl σ 92 ((sg_g σ 88 7))) = a1) => ?_) (fun (h3 : (sg_gl σ 92 ((sg_g σ 88 7))) = a1) => ?_)
    ·
      have w := w.1 h3
      refine wk_b tt_268 1 (pc' := 33) (ls' := [(0, .inr (.inr (.ref 88))), (1, .inl (a1))]) (st' := [.inl (0)]) (σ' := σ) rfl ?_
      exact wk_rZ tt_268 rfl rfl (by decide) ⟨by rw [v_isSignNow, if_neg (show ¬ (¬ (sg_g σ 90 ((sg_g σ 88 7))) = 3) by omega), if_pos h3], rfl⟩
    ·
      have w := w.2 h3
      refine wk_b tt_268 2 (pc' := 33) (ls' := [(0, .inr (.inr (.ref 88))), (1, .inl (a1))]) (st' := [.inl (1)]) (σ' := σ) rfl ?_
      exact wk_rZ tt_268 rfl rfl (by decide) ⟨by rw [v_isSignNow, if_neg (show ¬ (¬ (sg_g σ 90 ((sg_g σ 88 7))) = 3) by omega), if_neg (show ¬ (¬ (sg_gl σ 92 ((sg_g σ 88 7))) = a1) by omega)], rfl⟩
theorem vF_isSignNow {L : List Nat} {σ σ' : sg_S} {a1 : Int} (hF : sg_F L σ σ') (h0 : sg_cv L 88 7 = false) (h1 : sg_ca L 90 = true) (h2 : sg_ca L 92 = true) : v_isSignNow σ' a1 = v_isSignNow σ a1 := by
  unfold v_isSignNow
  simp only [sg_F_g hF h0, sg_F_gl hF h0, sg_F_ga (k := _) hF h1, sg_F_gal (k := _) hF h1, sg_F_ga (k := _) hF h2, sg_F_gal (k := _) hF h2, vF_isWord hF h0 h1 h2, pF_isWord hF h0 h1 h2, vF_isName hF h0 h1 h2, pF_isName hF h0 h1 h2]
theorem pF_isSignNow {L : List Nat} {σ σ' : sg_S} {a1 : Int} (hF : sg_F L σ σ') (h0 : sg_cv L 88 7 = false) (h1 : sg_ca L 90 = true) (h2 : sg_ca L 92 = true) : p_isSignNow σ' a1 = p_isSignNow σ a1 := by
  unfold p_isSignNow
  simp only [sg_F_g hF h0, sg_F_gl hF h0, sg_F_ga (k := _) hF h1, sg_F_gal (k := _) hF h1, sg_F_ga (k := _) hF h2, sg_F_gal (k := _) hF h2, vF_isWord hF h0 h1 h2, pF_isWord hF h0 h1 h2, vF_isName hF h0 h1 h2, pF_isName hF h0 h1 h2]
-- NestedVectorsModel.readExpr
def V_readExpr (σ : sg_S) (Q : sg_S → Prop) : Prop := p_isWord σ (7103860) ∧ (((v_isWord σ (7103860)) = 0 → p_isWord σ (26982) ∧ (((v_isWord σ (26982)) = 0 → V_pile σ (1) (0) (fun σ6 => sg_F [110, 111, 32088] σ σ6 → Q σ6)) ∧ (¬ (v_isWord σ (26982)) = 0 → V_enter σ  (fun σ12 => sg_F [30088, 31088, 37088] σ σ12 → V_newNode σ12 (3) (fun q17 σ18 => sg_R q17 → sg_F [93, 94, 95, 96, 98, 9088, 30088, 31088] σ12 σ18 → V_want σ18 (1) (fun σ24 => sg_F [8088, 30088, 31088] σ18 σ24 → V_pile σ24 (11) (q17) (fun σ30 => sg_F [110, 111, 32088] σ24 σ30 → V_pile σ30 (12) (0) (fun σ36 => sg_F [110, 111, 32088] σ30 σ36 → V_pile σ36 (10) (q17) (fun σ42 => sg_F [110, 111, 32088] σ36 σ42 → V_pile σ42 (0) (0) (fun σ48 => sg_F [110, 111, 32088] σ42 σ48 → V_pile σ48 (14) (2) (fun σ54 => sg_F [110, 111, 32088] σ48 σ54 → V_pile σ54 (10) (q17) (fun σ60 => sg_F [110, 111, 32088] σ54 σ60 → V_pile σ60 (0) (0) (fun σ66 => sg_F [110, 111, 32088] σ60 σ66 → V_pile σ66 (14) (1) (fun σ72 => sg_F [110, 111, 32088] σ66 σ72 → V_pile σ72 (10) (q17) (fun σ78 => sg_F [110, 111, 32088] σ72 σ78 → V_pile σ78 (0) (0) (fun σ84 => sg_F [110, 111, 32088] σ78 σ84 → Q σ84)))))))))))))))) ∧ (¬ (v_isWord σ (7103860)) = 0 → V_enter σ  (fun σ90 => sg_F [30088, 31088, 37088] σ σ90 → V_newNode σ90 (2) (fun q95 σ96 => sg_R q95 → sg_F [93, 94, 95, 96, 98, 9088, 30088, 31088] σ90 σ96 → V_want σ96 (1) (fun σ102 => sg_F [8088, 30088, 31088] σ96 σ102 → (0 ≤ (sg_g σ102 88 7) ∧ (sg_g σ102 88 7) < 1210) ∧ (0 ≤ q95 ∧ q95 < 210) ∧ ∀ σ109, σ109 = (sg_wl σ102 95 (q95) ((sg_gl σ 92 ((sg_g σ102 88 7))))) → p_isName σ102  ∧ V_want σ109 ((v_isName σ102)) (fun σ114 => sg_F [8088, 30088, 31088] σ109 σ114 → p_isSignNow σ114 (61) ∧ V_want σ114 ((v_isSignNow σ114 (61))) (fun σ121 => sg_F [8088, 30088, 31088] σ114 σ121 → V_pile σ121 (11) (q95) (fun σ127 => sg_F [110, 111, 32088] σ121 σ127 → V_pile σ127 (12) (0) (fun σ133 => sg_F [110, 111, 32088] σ127 σ133 → V_pile σ133 (10) (q95) (fun σ139 => sg_F [110, 111, 32088] σ133 σ139 → V_pile σ139 (0) (0) (fun σ145 => sg_F [110, 111, 32088] σ139 σ145 → V_pile σ145 (14) (0) (fun σ151 => sg_F [110, 111, 32088] σ145 σ151 → V_pile σ151 (10) (q95) (fun σ157 => sg_F [110, 111, 32088] σ151 σ157 → V_pile σ157 (0) (0) (fun σ163 => sg_F [110, 111, 32088] σ157 σ163 → Q σ163))))))))))))))
set_option maxHeartbeats 4000000 in
set_option maxRecDepth 8000 in
theorem w_readExpr (z : Value) (σ : sg_S) (Q : sg_S → Prop)  (w : V_readExpr σ  Q) : wx z 6 314 0 [(0, .inr (.inr (.ref 88)))] [] σ (fun v σ' => v = none ∧ sg_F [93, 94, 95, 96, 98, 110, 111, 8088, 9088, 30088, 31088, 32088, 37088] σ σ' ∧ Q σ') := by
  unfold V_readExpr at w
  refine wk_b tt_314 2 (pc' := 4) (ls' := [(0, .inr (.inr (.ref 88)))]) (st' := [.inr (.inl (7103860)), .inr (.inr (.ref 88))]) (σ' := σ) rfl ?_
  obtain ⟨c1, w⟩ := w
  refine wk_callp tt_314 rfl rfl rfl rfl rfl tt_269 rfl (by decide) (w_isWord z σ (7103860) (by decide) c1) ?_
  refine wk_if tt_314 (tgt := 108) rfl rfl (sg_Rz (vz_isWord ..)) (fun (h2 : (v_isWord σ (7103860)) = 0) => ?_) (fun (h2 : ¬ (v_isWord σ (7103860)) = 0) => ?_)
  ·
    have w := w.1 h2
    refine wk_b tt_314 2 (pc' := 112) (ls' := [(0, .inr (.inr (.ref 88)))]) (st' := [.inr (.inl (26982)), .inr (.inr (.ref 88))]) (σ' := σ) rfl ?_
    obtain ⟨c3, w⟩ := w
    refine wk_callp tt_314 rfl rfl rfl rfl rfl tt_269 rfl (by decide) (w_isWord z σ (26982) (by decide) c3) ?_
    refine wk_if tt_314 (tgt := 203) rfl rfl (sg_Rz (vz_isWord ..)) (fun (h4 : (v_isWord σ (26982)) = 0) => ?_) (fun (h4 : ¬ (v_isWord σ (26982)) = 0) => ?_)
    ·
      have w := w.1 h4
      refine wk_b tt_314 3 (pc' := 206) (ls' := [(0, .inr (.inr (.ref 88)))]) (st' := [.inl (0), .inl (1), .inr (.inr (.ref 88))]) (σ' := σ) rfl ?_
      refine wk_call tt_314 rfl rfl rfl rfl rfl tt_305 rfl (by decide) (w_pile z σ (1) (0) _ (by decide) (by decide) w) (fun u10 σ6 hq8 => ?_)
      obtain ⟨rfl, hF7, w⟩ := hq8
      have w := w hF7
      exact wk_rV tt_314 rfl rfl ⟨rfl, (sg_F_t (sg_F_r [93, 94, 95, 96, 98, 110, 111, 8088, 9088, 30088, 31088, 32088, 37088] σ) (sg_F_m (L := [93, 94, 95, 96, 98, 110, 111, 8088, 9088, 30088, 31088, 32088, 37088]) hF7 rfl)), w⟩
    ·
      have w := w.2 h4
      refine wk_b tt_314 1 (pc' := 119) (ls' := [(0, .inr (.inr (.ref 88)))]) (st' := [.inr (.inr (.ref 88))]) (σ' := σ) rfl ?_
      refine wk_call tt_314 rfl rfl rfl rfl rfl tt_225 rfl (by decide) (w_enter z σ  _  w) (fun u16 σ12 hq14 => ?_)
      obtain ⟨rfl, hF13, w⟩ := hq14
      have w := w hF13
      refine wk_b tt_314 2 (pc' := 124) (ls' := [(0, .inr (.inr (.ref 88)))]) (st' := [.inl (3), .inr (.inr (.ref 88))]) (σ' := σ12) rfl ?_
      refine wk_call tt_314 rfl rfl rfl rfl rfl tt_294 rfl (by decide) (w_newNode z σ12 (3) _ (by decide) w) (fun u22 σ18 hq20 => ?_)
      obtain ⟨q17, rfl, r21, hF19, w⟩ := hq20
      have w := w r21 hF19
      refine wk_b tt_314 3 (pc' := 130) (ls' := [(1, .inl (q17)), (0, .inr (.inr (.ref 88)))]) (st' := [.inl (1), .inr (.inr (.ref 88))]) (σ' := σ18) rfl ?_
      refine wk_call tt_314 rfl rfl rfl rfl rfl tt_334 rfl (by decide) (w_want z σ18 (1) _ (by decide) w) (fun u28 σ24 hq26 => ?_)
      obtain ⟨rfl, hF25, w⟩ := hq26
      have w := w hF25
      refine wk_b tt_314 3 (pc' := 137) (ls' := [(1, .inl (q17)), (0, .inr (.inr (.ref 88)))]) (st' := [.inl (q17), .inl (11), .inr (.inr (.ref 88))]) (σ' := σ24) rfl ?_
      refine wk_call tt_314 rfl rfl rfl rfl rfl tt_305 rfl (by decide) (w_pile z σ24 (11) (q17) _ (by decide) r21 w) (fun u34 σ30 hq32 => ?_)
      obtain ⟨rfl, hF31, w⟩ := hq32
      have w := w hF31
      refine wk_b tt_314 3 (pc' := 144) (ls' := [(1, .inl (q17)), (0, .inr (.inr (.ref 88)))]) (st' := [.inl (0), .inl (12), .inr (.inr (.ref 88))]) (σ' := σ30) rfl ?_
      refine wk_call tt_314 rfl rfl rfl rfl rfl tt_305 rfl (by decide) (w_pile z σ30 (12) (0) _ (by decide) (by decide) w) (fun u40 σ36 hq38 => ?_)
      obtain ⟨rfl, hF37, w⟩ := hq38
      have w := w hF37
      refine wk_b tt_314 3 (pc' := 151) (ls' := [(1, .inl (q17)), (0, .inr (.inr (.ref 88)))]) (st' := [.inl (q17), .inl (10), .inr (.inr (.ref 88))]) (σ' := σ36) rfl ?_
      refine wk_call tt_314 rfl rfl rfl rfl rfl tt_305 rfl (by decide) (w_pile z σ36 (10) (q17) _ (by decide) r21 w) (fun u46 σ42 hq44 => ?_)
      obtain ⟨rfl, hF43, w⟩ := hq44
      have w := w hF43
      refine wk_b tt_314 3 (pc' := 157) (ls' := [(1, .inl (q17)), (0, .inr (.inr (.ref 88)))]) (st' := [.inl (0), .inl (0), .inr (.inr (.ref 88))]) (σ' := σ42) rfl ?_
      refine wk_call tt_314 rfl rfl rfl rfl rfl tt_305 rfl (by decide) (w_pile z σ42 (0) (0) _ (by decide) (by decide) w) (fun u52 σ48 hq50 => ?_)
      obtain ⟨rfl, hF49, w⟩ := hq50
      have w := w hF49
      refine wk_b tt_314 3 (pc' := 164) (ls' := [(1, .inl (q17)), (0, .inr (.inr (.ref 88)))]) (st' := [.inl (2), .inl (14), .inr (.inr (.ref 88))]) (σ' := σ48) rfl ?_
      refine wk_call tt_314 rfl rfl rfl rfl rfl tt_305 rfl (by decide) (w_pile z σ48 (14) (2) _ (by decide) (by decide) w) (fun u58 σ54 hq56 => ?_)
      obtain ⟨rfl, hF55, w⟩ := hq56
      have w := w hF55
      refine wk_b tt_314 3 (pc' := 171) (ls' := [(1, .inl (q17)), (0, .inr (.inr (.ref 88)))]) (st' := [.inl (q17), .inl (10), .inr (.inr (.ref 88))]) (σ' := σ54) rfl ?_
      refine wk_call tt_314 rfl rfl rfl rfl rfl tt_305 rfl (by decide) (w_pile z σ54 (10) (q17) _ (by decide) r21 w) (fun u64 σ60 hq62 => ?_)
      obtain ⟨rfl, hF61, w⟩ := hq62
      have w := w hF61
      refine wk_b tt_314 3 (pc' := 177) (ls' := [(1, .inl (q17)), (0, .inr (.inr (.ref 88)))]) (st' := [.inl (0), .inl (0), .inr (.inr (.ref 88))]) (σ' := σ60) rfl ?_
      refine wk_call tt_314 rfl rfl rfl rfl rfl tt_305 rfl (by decide) (w_pile z σ60 (0) (0) _ (by decide) (by decide) w) (fun u70 σ66 hq68 => ?_)
      obtain ⟨rfl, hF67, w⟩ := hq68
      have w := w hF67
      refine wk_b tt_314 3 (pc' := 184) (ls' := [(1, .inl (q17)), (0, .inr (.inr (.ref 88)))]) (st' := [.inl (1), .inl (14), .inr (.inr (.ref 88))]) (σ' := σ66) rfl ?_
      refine wk_call tt_314 rfl rfl rfl rfl rfl tt_305 rfl (by decide) (w_pile z σ66 (14) (1) _ (by decide) (by decide) w) (fun u76 σ72 hq74 => ?_)
      obtain ⟨rfl, hF73, w⟩ := hq74
      have w := w hF73
      refine wk_b tt_314 3 (pc' := 191) (ls' := [(1, .inl (q17)), (0, .inr (.inr (.ref 88)))]) (st' := [.inl (q17), .inl (10), .inr (.inr (.ref 88))]) (σ' := σ72) rfl ?_
      refine wk_call tt_314 rfl rfl rfl rfl rfl tt_305 rfl (by decide) (w_pile z σ72 (10) (q17) _ (by decide) r21 w) (fun u82 σ78 hq80 => ?_)
      obtain ⟨rfl, hF79, w⟩ := hq80
      have w := w hF79
      refine wk_b tt_314 3 (pc' := 197) (ls' := [(1, .inl (q17)), (0, .inr (.inr (.ref 88)))]) (st' := [.inl (0), .inl (0), .inr (.inr (.ref 88))]) (σ' := σ78) rfl ?_
      refine wk_call tt_314 rfl rfl rfl rfl rfl tt_305 rfl (by decide) (w_pile z σ78 (0) (0) _ (by decide) (by decide) w) (fun u88 σ84 hq86 => ?_)
      obtain ⟨rfl, hF85, w⟩ := hq86
      have w := w hF85
      refine wk_b tt_314 1 (pc' := 209) (ls' := [(1, .inl (q17)), (0, .inr (.inr (.ref 88)))]) (st' := []) (σ' := σ84) rfl ?_
      exact wk_rV tt_314 rfl rfl ⟨rfl, (sg_F_t (sg_F_t (sg_F_t (sg_F_t (sg_F_t (sg_F_t (sg_F_t (sg_F_t (sg_F_t (sg_F_t (sg_F_t (sg_F_t (sg_F_t (sg_F_r [93, 94, 95, 96, 98, 110, 111, 8088, 9088, 30088, 31088, 32088, 37088] σ) (sg_F_m (L := [93, 94, 95, 96, 98, 110, 111, 8088, 9088, 30088, 31088, 32088, 37088]) hF13 rfl)) (sg_F_m (L := [93, 94, 95, 96, 98, 110, 111, 8088, 9088, 30088, 31088, 32088, 37088]) hF19 rfl)) (sg_F_m (L := [93, 94, 95, 96, 98, 110, 111, 8088, 9088, 30088, 31088, 32088, 37088]) hF25 rfl)) (sg_F_m (L := [93, 94, 95, 96, 98, 110, 111, 8088, 9088, 30088, 31088, 32088, 37088]) hF31 rfl)) (sg_F_m (L := [93, 94, 95, 96, 98, 110, 111, 8088, 9088, 30088, 31088, 32088, 37088]) hF37 rfl)) (sg_F_m (L := [93, 94, 95, 96, 98, 110, 111, 8088, 9088, 30088, 31088, 32088, 37088]) hF43 rfl)) (sg_F_m (L := [93, 94, 95, 96, 98, 110, 111, 8088, 9088, 30088, 31088, 32088, 37088]) hF49 rfl)) (sg_F_m (L := [93, 94, 95, 96, 98, 110, 111, 8088, 9088, 30088, 31088, 32088, 37088]) hF55 rfl)) (sg_F_m (L := [93, 94, 95, 96, 98, 110, 111, 8088, 9088, 30088, 31088, 32088, 37088]) hF61 rfl)) (sg_F_m (L := [93, 94, 95, 96, 98, 110, 111, 8088, 9088, 30088, 31088, 32088, 37088]) hF67 rfl)) (sg_F_m (L := [93, 94, 95, 96, 98, 110, 111, 8088, 9088, 30088, 31088, 32088, 37088]) hF73 rfl)) (sg_F_m (L := [93, 94, 95, 96, 98, 110, 111, 8088, 9088, 30088, 31088, 32088, 37088]) hF79 rfl)) (sg_F_m (L := [93, 94, 95, 96, 98, 110, 111, 8088, 9088, 30088, 31088, 32088, 37088]) hF85 rfl)), w⟩
  ·
    have w := w.2 h2
    refine wk_b tt_314 1 (pc' := 11) (ls' := [(0, .inr (.inr (.ref 88)))]) (st' := [.inr (.inr (.ref 88))]) (σ' := σ) rfl ?_
    refine wk_call tt_314 rfl rfl rfl rfl rfl tt_225 rfl (by decide) (w_enter z σ  _  w) (fun u94 σ90 hq92 => ?_)
    obtain ⟨rfl, hF91, w⟩ := hq92
    have w := w hF91
    refine wk_b tt_314 2 (pc' := 16) (ls' := [(0, .inr (.inr (.ref 88)))]) (st' := [.inl (2), .inr (.inr (.ref 88))]) (σ' := σ90) rfl ?_
    refine wk_call tt_314 rfl rfl rfl rfl rfl tt_294 rfl (by decide) (w_newNode z σ90 (2) _ (by decide) w) (fun u100 σ96 hq98 => ?_)
    obtain ⟨q95, rfl, r99, hF97, w⟩ := hq98
    have w := w r99 hF97
    refine wk_b tt_314 3 (pc' := 22) (ls' := [(1, .inl (q95)), (0, .inr (.inr (.ref 88)))]) (st' := [.inl (1), .inr (.inr (.ref 88))]) (σ' := σ96) rfl ?_
    refine wk_call tt_314 rfl rfl rfl rfl rfl tt_334 rfl (by decide) (w_want z σ96 (1) _ (by decide) w) (fun u106 σ102 hq104 => ?_)
    obtain ⟨rfl, hF103, w⟩ := hq104
    have w := w hF103
    refine wk_b tt_314 7 (pc' := 38) (ls' := [(1, .inl (q95)), (0, .inr (.inr (.ref 88)))]) (st' := [.inl ((sg_g σ102 88 7)), .inr (.inr (.ref 92)), .inl (q95), .inr (.inr (.ref 95))]) (σ' := σ102) rfl ?_
    obtain ⟨c107, w⟩ := w
    refine wk_la tt_314 rfl rfl c107.1 c107.2 (sg_Rg _ _ _) ?_
    rw [show (sg_gl σ102 92 ((sg_g σ102 88 7))) = (sg_gl σ 92 ((sg_g σ102 88 7))) from by rw [sg_F_gal hF103 rfl, sg_F_gal hF97 rfl, sg_F_gal hF91 rfl]]
    obtain ⟨c108, w⟩ := w
    refine wk_lS tt_314 rfl rfl c108.1 c108.2 r99 ?_
    generalize hs110 : (sg_wl σ102 95 (q95) ((sg_gl σ 92 ((sg_g σ102 88 7))))) = σ109
    have w := w σ109 hs110.symm
    have hF111 : sg_F [95] σ102 σ109 := by rw [← hs110]; exact sg_F_wl (sg_F_r _ _) rfl _
    refine wk_b tt_314 2 (pc' := 42) (ls' := [(1, .inl (q95)), (0, .inr (.inr (.ref 88)))]) (st' := [.inr (.inr (.ref 88)), .inr (.inr (.ref 88))]) (σ' := σ109) rfl ?_
    obtain ⟨c112, w⟩ := w
    have c112 : p_isName σ109  := by
      rw [pF_isName hF111 rfl rfl rfl]; exact c112
    refine wk_callp tt_314 rfl rfl rfl rfl rfl tt_264 rfl (by decide) (w_isName z σ109   c112) ?_
    rw [vF_isName hF111 rfl rfl rfl]
    refine wk_call tt_314 rfl rfl rfl rfl rfl tt_334 rfl (by decide) (w_want z σ109 ((v_isName σ102)) _ (sg_Rz (vz_isName ..)) w) (fun u118 σ114 hq116 => ?_)
    obtain ⟨rfl, hF115, w⟩ := hq116
    have w := w hF115
    refine wk_b tt_314 3 (pc' := 52) (ls' := [(1, .inl (q95)), (0, .inr (.inr (.ref 88)))]) (st' := [.inl (61), .inr (.inr (.ref 88)), .inr (.inr (.ref 88))]) (σ' := σ114) rfl ?_
    obtain ⟨c119, w⟩ := w
    refine wk_callp tt_314 rfl rfl rfl rfl rfl tt_268 rfl (by decide) (w_isSignNow z σ114 (61) (by decide) c119) ?_
    refine wk_call tt_314 rfl rfl rfl rfl rfl tt_334 rfl (by decide) (w_want z σ114 ((v_isSignNow σ114 (61))) _ (sg_Rz (vz_isSignNow ..)) w) (fun u125 σ121 hq123 => ?_)
    obtain ⟨rfl, hF122, w⟩ := hq123
    have w := w hF122
    refine wk_b tt_314 3 (pc' := 62) (ls' := [(1, .inl (q95)), (0, .inr (.inr (.ref 88)))]) (st' := [.inl (q95), .inl (11), .inr (.inr (.ref 88))]) (σ' := σ121) rfl ?_
    refine wk_call tt_314 rfl rfl rfl rfl rfl tt_305 rfl (by decide) (w_pile z σ121 (11) (q95) _ (by decide) r99 w) (fun u131 σ127 hq129 => ?_)
    obtain ⟨rfl, hF128, w⟩ := hq129
    have w := w hF128
    refine wk_b tt_314 3 (pc' := 69) (ls' := [(1, .inl (q95)), (0, .inr (.inr (.ref 88)))]) (st' := [.inl (0), .inl (12), .inr (.inr (.ref 88))]) (σ' := σ127) rfl ?_
    refine wk_call tt_314 rfl rfl rfl rfl rfl tt_305 rfl (by decide) (w_pile z σ127 (12) (0) _ (by decide) (by decide) w) (fun u137 σ133 hq135 => ?_)
    obtain ⟨rfl, hF134, w⟩ := hq135
    have w := w hF134
    refine wk_b tt_314 3 (pc' := 76) (ls' := [(1, .inl (q95)), (0, .inr (.inr (.ref 88)))]) (st' := [.inl (q95), .inl (10), .inr (.inr (.ref 88))]) (σ' := σ133) rfl ?_
    refine wk_call tt_314 rfl rfl rfl rfl rfl tt_305 rfl (by decide) (w_pile z σ133 (10) (q95) _ (by decide) r99 w) (fun u143 σ139 hq141 => ?_)
    obtain ⟨rfl, hF140, w⟩ := hq141
    have w := w hF140
    refine wk_b tt_314 3 (pc' := 82) (ls' := [(1, .inl (q95)), (0, .inr (.inr (.ref 88)))]) (st' := [.inl (0), .inl (0), .inr (.inr (.ref 88))]) (σ' := σ139) rfl ?_
    refine wk_call tt_314 rfl rfl rfl rfl rfl tt_305 rfl (by decide) (w_pile z σ139 (0) (0) _ (by decide) (by decide) w) (fun u149 σ145 hq147 => ?_)
    obtain ⟨rfl, hF146, w⟩ := hq147
    have w := w hF146
    refine wk_b tt_314 3 (pc' := 89) (ls' := [(1, .inl (q95)), (0, .inr (.inr (.ref 88)))]) (st' := [.inl (0), .inl (14), .inr (.inr (.ref 88))]) (σ' := σ145) rfl ?_
    refine wk_call tt_314 rfl rfl rfl rfl rfl tt_305 rfl (by decide) (w_pile z σ145 (14) (0) _ (by decide) (by decide) w) (fun u155 σ151 hq153 => ?_)
    obtain ⟨rfl, hF152, w⟩ := hq153
    have w := w hF152
    refine wk_b tt_314 3 (pc' := 96) (ls' := [(1, .inl (q95)), (0, .inr (.inr (.ref 88)))]) (st' := [.inl (q95), .inl (10), .inr (.inr (.ref 88))]) (σ' := σ151) rfl ?_
    refine wk_call tt_314 rfl rfl rfl rfl rfl tt_305 rfl (by decide) (w_pile z σ151 (10) (q95) _ (by decide) r99 w) (fun u161 σ157 hq159 => ?_)
    obtain ⟨rfl, hF158, w⟩ := hq159
    have w := w hF158
    refine wk_b tt_314 3 (pc' := 102) (ls' := [(1, .inl (q95)), (0, .inr (.inr (.ref 88)))]) (st' := [.inl (0), .inl (0), .inr (.inr (.ref 88))]) (σ' := σ157) rfl ?_
    refine wk_call tt_314 rfl rfl rfl rfl rfl tt_305 rfl (by decide) (w_pile z σ157 (0) (0) _ (by decide) (by decide) w) (fun u167 σ163 hq165 => ?_)
    obtain ⟨rfl, hF164, w⟩ := hq165
    have w := w hF164
    refine wk_b tt_314 1 (pc' := 209) (ls' := [(1, .inl (q95)), (0, .inr (.inr (.ref 88)))]) (st' := []) (σ' := σ163) rfl ?_
    exact wk_rV tt_314 rfl rfl ⟨rfl, (sg_F_t (sg_F_t (sg_F_t (sg_F_t (sg_F_t (sg_F_t (sg_F_t (sg_F_t (sg_F_t (sg_F_t (sg_F_t (sg_F_t (sg_F_t (sg_F_r [93, 94, 95, 96, 98, 110, 111, 8088, 9088, 30088, 31088, 32088, 37088] σ) (sg_F_m (L := [93, 94, 95, 96, 98, 110, 111, 8088, 9088, 30088, 31088, 32088, 37088]) hF91 rfl)) (sg_F_m (L := [93, 94, 95, 96, 98, 110, 111, 8088, 9088, 30088, 31088, 32088, 37088]) hF97 rfl)) (sg_F_m (L := [93, 94, 95, 96, 98, 110, 111, 8088, 9088, 30088, 31088, 32088, 37088]) hF103 rfl)) (sg_F_m (L := [93, 94, 95, 96, 98, 110, 111, 8088, 9088, 30088, 31088, 32088, 37088]) hF111 rfl)) (sg_F_m (L := [93, 94, 95, 96, 98, 110, 111, 8088, 9088, 30088, 31088, 32088, 37088]) hF115 rfl)) (sg_F_m (L := [93, 94, 95, 96, 98, 110, 111, 8088, 9088, 30088, 31088, 32088, 37088]) hF122 rfl)) (sg_F_m (L := [93, 94, 95, 96, 98, 110, 111, 8088, 9088, 30088, 31088, 32088, 37088]) hF128 rfl)) (sg_F_m (L := [93, 94, 95, 96, 98, 110, 111, 8088, 9088, 30088, 31088, 32088, 37088]) hF134 rfl)) (sg_F_m (L := [93, 94, 95, 96, 98, 110, 111, 8088, 9088, 30088, 31088, 32088, 37088]) hF140 rfl)) (sg_F_m (L := [93, 94, 95, 96, 98, 110, 111, 8088, 9088, 30088, 31088, 32088, 37088]) hF146 rfl)) (sg_F_m (L := [93, 94, 95, 96, 98, 110, 111, 8088, 9088, 30088, 31088, 32088, 37088]) hF152 rfl)) (sg_F_m (L := [93, 94, 95, 96, 98, 110, 111, 8088, 9088, 30088, 31088, 32088, 37088]) hF158 rfl)) (sg_F_m (L := [93, 94, 95, 96, 98, 110, 111, 8088, 9088, 30088, 31088, 32088, 37088]) hF164 rfl)), w⟩
-- NestedVectorsModel.goOn
def V_goOn_0 (σ : sg_S) (Q : sg_S → Prop) : Prop := V_readExpr σ  (fun σ2 => sg_F [93, 94, 95, 96, 98, 110, 111, 8088, 9088, 30088, 31088, 32088, 37088] σ σ2 → Q σ2)
set_option maxHeartbeats 4000000 in
set_option maxRecDepth 8000 in
theorem w_goOn_0 (z : Value) (σ : sg_S) (Q : sg_S → Prop)  (w : V_goOn_0 σ  Q) : wx z 7 253 84 [(0, .inr (.inr (.ref 88)))] [] σ (fun v σ' => v = none ∧ sg_F [93, 94, 95, 96, 98, 110, 111, 8088, 9088, 30088, 31088, 32088, 37088] σ σ' ∧ Q σ') := by
  unfold V_goOn_0 at w
  refine wk_b tt_253 1 (pc' := 85) (ls' := [(0, .inr (.inr (.ref 88)))]) (st' := [.inr (.inr (.ref 88))]) (σ' := σ) rfl ?_
  refine wk_call tt_253 rfl rfl rfl rfl rfl tt_314 rfl (by decide) (w_readExpr z σ  _  w) (fun u6 σ2 hq4 => ?_)
  obtain ⟨rfl, hF3, w⟩ := hq4
  have w := w hF3
  refine wk_b tt_253 1 (pc' := 632) (ls' := [(0, .inr (.inr (.ref 88)))]) (st' := []) (σ' := σ2) rfl ?_
  exact wk_rV tt_253 rfl rfl ⟨rfl, (sg_F_t (sg_F_r [93, 94, 95, 96, 98, 110, 111, 8088, 9088, 30088, 31088, 32088, 37088] σ) (sg_F_m (L := [93, 94, 95, 96, 98, 110, 111, 8088, 9088, 30088, 31088, 32088, 37088]) hF3 rfl)), w⟩
-- NestedVectorsModel.goOn
def V_goOn_1 (σ : sg_S) (Q : sg_S → Prop) : Prop := V_pile σ (2) (0) (fun σ2 => sg_F [110, 111, 32088] σ σ2 → V_pile σ2 (3) (0) (fun σ8 => sg_F [110, 111, 32088] σ2 σ8 → Q σ8))
set_option maxHeartbeats 4000000 in
set_option maxRecDepth 8000 in
theorem w_goOn_1 (z : Value) (σ : sg_S) (Q : sg_S → Prop)  (w : V_goOn_1 σ  Q) : wx z 1 253 91 [(0, .inr (.inr (.ref 88)))] [] σ (fun v σ' => v = none ∧ sg_F [110, 111, 32088] σ σ' ∧ Q σ') := by
  unfold V_goOn_1 at w
  refine wk_b tt_253 3 (pc' := 94) (ls' := [(0, .inr (.inr (.ref 88)))]) (st' := [.inl (0), .inl (2), .inr (.inr (.ref 88))]) (σ' := σ) rfl ?_
  refine wk_call tt_253 rfl rfl rfl rfl rfl tt_305 rfl (by decide) (w_pile z σ (2) (0) _ (by decide) (by decide) w) (fun u6 σ2 hq4 => ?_)
  obtain ⟨rfl, hF3, w⟩ := hq4
  have w := w hF3
  refine wk_b tt_253 3 (pc' := 100) (ls' := [(0, .inr (.inr (.ref 88)))]) (st' := [.inl (0), .inl (3), .inr (.inr (.ref 88))]) (σ' := σ2) rfl ?_
  refine wk_call tt_253 rfl rfl rfl rfl rfl tt_305 rfl (by decide) (w_pile z σ2 (3) (0) _ (by decide) (by decide) w) (fun u12 σ8 hq10 => ?_)
  obtain ⟨rfl, hF9, w⟩ := hq10
  have w := w hF9
  refine wk_b tt_253 1 (pc' := 632) (ls' := [(0, .inr (.inr (.ref 88)))]) (st' := []) (σ' := σ8) rfl ?_
  exact wk_rV tt_253 rfl rfl ⟨rfl, (sg_F_t (sg_F_t (sg_F_r [110, 111, 32088] σ) (sg_F_m (L := [110, 111, 32088]) hF3 rfl)) (sg_F_m (L := [110, 111, 32088]) hF9 rfl)), w⟩
