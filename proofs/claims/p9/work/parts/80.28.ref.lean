/-! Conditions of the reference's methods, by program (28). -/
-- told
set_option maxHeartbeats 4000000 in
set_option maxRecDepth 8000 in
theorem w_told_1701606245 (z : Value) (σ : sg_S) : wx z 2 332 0 [(0, .inr (.inl (1701606245)))] [] σ (fun v σ' => v = some (.inr (.inl (339965))) ∧ σ' = σ) := by
  refine wk_b tt_332 5 (pc' := 8) (ls' := [(4, .inl (56)), (2, .inr (.inl (0))), (0, .inr (.inl (1701606245)))]) (st' := [.inl (56)]) (σ' := σ) rfl ?_
  refine wk_if tt_332 (tgt := 48) rfl rfl (by decide) (fun (h : 56 < 0) => absurd h (by decide)) (fun _ => ?_)
  refine wk_b tt_332 2 (pc' := 14) (ls' := [(4, .inl (56)), (2, .inr (.inl (0))), (0, .inr (.inl (1701606245)))]) (st' := [.inl (56), .inr (.inl (1701606245))]) (σ' := σ) rfl ?_
  obtain ⟨c0, _⟩ : p_letterOf (1701606245) (56) := ⟨by decide, trivial⟩
  refine wk_callp tt_332 rfl rfl rfl rfl rfl tt_279 rfl (by decide) (w_letterOf z σ (1701606245) (56) (by decide) (by decide) ⟨c0, trivial⟩) ?_
  rw [show (v_letterOf (1701606245) (56)) = 0 from by decide]
  refine wk_b tt_332 2 (pc' := 21) (ls' := [(5, .inl (0)), (4, .inl (56)), (2, .inr (.inl (0))), (0, .inr (.inl (1701606245)))]) (st' := [.inl (0)]) (σ' := σ) rfl ?_
  refine wk_if tt_332 (tgt := 28) rfl rfl (by decide) (fun (h : ¬ 0 = 0) => absurd h (by decide)) (fun _ => ?_)
  refine wk_b tt_332 6 (pc' := 8) (ls' := [(4, .inl (48)), (2, .inr (.inl (0))), (5, .inl (0)), (0, .inr (.inl (1701606245)))]) (st' := [.inl (48)]) (σ' := σ) rfl ?_
  refine wk_if tt_332 (tgt := 48) rfl rfl (by decide) (fun (h : 48 < 0) => absurd h (by decide)) (fun _ => ?_)
  refine wk_b tt_332 2 (pc' := 14) (ls' := [(4, .inl (48)), (2, .inr (.inl (0))), (5, .inl (0)), (0, .inr (.inl (1701606245)))]) (st' := [.inl (48), .inr (.inl (1701606245))]) (σ' := σ) rfl ?_
  obtain ⟨c0, _⟩ : p_letterOf (1701606245) (48) := ⟨by decide, trivial⟩
  refine wk_callp tt_332 rfl rfl rfl rfl rfl tt_279 rfl (by decide) (w_letterOf z σ (1701606245) (48) (by decide) (by decide) ⟨c0, trivial⟩) ?_
  rw [show (v_letterOf (1701606245) (48)) = 0 from by decide]
  refine wk_b tt_332 2 (pc' := 21) (ls' := [(5, .inl (0)), (4, .inl (48)), (2, .inr (.inl (0))), (0, .inr (.inl (1701606245)))]) (st' := [.inl (0)]) (σ' := σ) rfl ?_
  refine wk_if tt_332 (tgt := 28) rfl rfl (by decide) (fun (h : ¬ 0 = 0) => absurd h (by decide)) (fun _ => ?_)
  refine wk_b tt_332 6 (pc' := 8) (ls' := [(4, .inl (40)), (2, .inr (.inl (0))), (5, .inl (0)), (0, .inr (.inl (1701606245)))]) (st' := [.inl (40)]) (σ' := σ) rfl ?_
  refine wk_if tt_332 (tgt := 48) rfl rfl (by decide) (fun (h : 40 < 0) => absurd h (by decide)) (fun _ => ?_)
  refine wk_b tt_332 2 (pc' := 14) (ls' := [(4, .inl (40)), (2, .inr (.inl (0))), (5, .inl (0)), (0, .inr (.inl (1701606245)))]) (st' := [.inl (40), .inr (.inl (1701606245))]) (σ' := σ) rfl ?_
  obtain ⟨c0, _⟩ : p_letterOf (1701606245) (40) := ⟨by decide, trivial⟩
  refine wk_callp tt_332 rfl rfl rfl rfl rfl tt_279 rfl (by decide) (w_letterOf z σ (1701606245) (40) (by decide) (by decide) ⟨c0, trivial⟩) ?_
  rw [show (v_letterOf (1701606245) (40)) = 0 from by decide]
  refine wk_b tt_332 2 (pc' := 21) (ls' := [(5, .inl (0)), (4, .inl (40)), (2, .inr (.inl (0))), (0, .inr (.inl (1701606245)))]) (st' := [.inl (0)]) (σ' := σ) rfl ?_
  refine wk_if tt_332 (tgt := 28) rfl rfl (by decide) (fun (h : ¬ 0 = 0) => absurd h (by decide)) (fun _ => ?_)
  refine wk_b tt_332 6 (pc' := 8) (ls' := [(4, .inl (32)), (2, .inr (.inl (0))), (5, .inl (0)), (0, .inr (.inl (1701606245)))]) (st' := [.inl (32)]) (σ' := σ) rfl ?_
  refine wk_if tt_332 (tgt := 48) rfl rfl (by decide) (fun (h : 32 < 0) => absurd h (by decide)) (fun _ => ?_)
  refine wk_b tt_332 2 (pc' := 14) (ls' := [(4, .inl (32)), (2, .inr (.inl (0))), (5, .inl (0)), (0, .inr (.inl (1701606245)))]) (st' := [.inl (32), .inr (.inl (1701606245))]) (σ' := σ) rfl ?_
  obtain ⟨c0, _⟩ : p_letterOf (1701606245) (32) := ⟨by decide, trivial⟩
  refine wk_callp tt_332 rfl rfl rfl rfl rfl tt_279 rfl (by decide) (w_letterOf z σ (1701606245) (32) (by decide) (by decide) ⟨c0, trivial⟩) ?_
  rw [show (v_letterOf (1701606245) (32)) = 0 from by decide]
  refine wk_b tt_332 2 (pc' := 21) (ls' := [(5, .inl (0)), (4, .inl (32)), (2, .inr (.inl (0))), (0, .inr (.inl (1701606245)))]) (st' := [.inl (0)]) (σ' := σ) rfl ?_
  refine wk_if tt_332 (tgt := 28) rfl rfl (by decide) (fun (h : ¬ 0 = 0) => absurd h (by decide)) (fun _ => ?_)
  refine wk_b tt_332 6 (pc' := 8) (ls' := [(4, .inl (24)), (2, .inr (.inl (0))), (5, .inl (0)), (0, .inr (.inl (1701606245)))]) (st' := [.inl (24)]) (σ' := σ) rfl ?_
  refine wk_if tt_332 (tgt := 48) rfl rfl (by decide) (fun (h : 24 < 0) => absurd h (by decide)) (fun _ => ?_)
  refine wk_b tt_332 2 (pc' := 14) (ls' := [(4, .inl (24)), (2, .inr (.inl (0))), (5, .inl (0)), (0, .inr (.inl (1701606245)))]) (st' := [.inl (24), .inr (.inl (1701606245))]) (σ' := σ) rfl ?_
  obtain ⟨c0, _⟩ : p_letterOf (1701606245) (24) := ⟨by decide, trivial⟩
  refine wk_callp tt_332 rfl rfl rfl rfl rfl tt_279 rfl (by decide) (w_letterOf z σ (1701606245) (24) (by decide) (by decide) ⟨c0, trivial⟩) ?_
  rw [show (v_letterOf (1701606245) (24)) = 101 from by decide]
  refine wk_b tt_332 2 (pc' := 21) (ls' := [(5, .inl (101)), (4, .inl (24)), (2, .inr (.inl (0))), (0, .inr (.inl (1701606245)))]) (st' := [.inl (101)]) (σ' := σ) rfl ?_
  refine wk_if tt_332 (tgt := 28) rfl rfl (by decide) (fun _ => ?_) (fun (h : 101 = 0) => absurd h (by decide))
  refine wk_b tt_332 12 (pc' := 8) (ls' := [(4, .inl (16)), (2, .inr (.inl ((((40 * 0) + (sg_n (101))) - 96)))), (5, .inl (101)), (0, .inr (.inl (1701606245)))]) (st' := [.inl (16)]) (σ' := σ) rfl ?_
  rw [show (sg_n (101)) = 101 from by rw [sg_id (by decide)]]
  show wx z 2 332 8 [(4, .inl (16)), (2, .inr (.inl (5))), (5, .inl (101)), (0, .inr (.inl (1701606245)))] [.inl (16)] σ (fun v σ' => v = some (.inr (.inl (339965))) ∧ σ' = σ)
  refine wk_if tt_332 (tgt := 48) rfl rfl (by decide) (fun (h : 16 < 0) => absurd h (by decide)) (fun _ => ?_)
  refine wk_b tt_332 2 (pc' := 14) (ls' := [(4, .inl (16)), (2, .inr (.inl (5))), (5, .inl (101)), (0, .inr (.inl (1701606245)))]) (st' := [.inl (16), .inr (.inl (1701606245))]) (σ' := σ) rfl ?_
  obtain ⟨c0, _⟩ : p_letterOf (1701606245) (16) := ⟨by decide, trivial⟩
  refine wk_callp tt_332 rfl rfl rfl rfl rfl tt_279 rfl (by decide) (w_letterOf z σ (1701606245) (16) (by decide) (by decide) ⟨c0, trivial⟩) ?_
  rw [show (v_letterOf (1701606245) (16)) = 108 from by decide]
  refine wk_b tt_332 2 (pc' := 21) (ls' := [(5, .inl (108)), (4, .inl (16)), (2, .inr (.inl (5))), (0, .inr (.inl (1701606245)))]) (st' := [.inl (108)]) (σ' := σ) rfl ?_
  refine wk_if tt_332 (tgt := 28) rfl rfl (by decide) (fun _ => ?_) (fun (h : 108 = 0) => absurd h (by decide))
  refine wk_b tt_332 12 (pc' := 8) (ls' := [(4, .inl (8)), (2, .inr (.inl ((((40 * 5) + (sg_n (108))) - 96)))), (5, .inl (108)), (0, .inr (.inl (1701606245)))]) (st' := [.inl (8)]) (σ' := σ) rfl ?_
  rw [show (sg_n (108)) = 108 from by rw [sg_id (by decide)]]
  show wx z 2 332 8 [(4, .inl (8)), (2, .inr (.inl (212))), (5, .inl (108)), (0, .inr (.inl (1701606245)))] [.inl (8)] σ (fun v σ' => v = some (.inr (.inl (339965))) ∧ σ' = σ)
  refine wk_if tt_332 (tgt := 48) rfl rfl (by decide) (fun (h : 8 < 0) => absurd h (by decide)) (fun _ => ?_)
  refine wk_b tt_332 2 (pc' := 14) (ls' := [(4, .inl (8)), (2, .inr (.inl (212))), (5, .inl (108)), (0, .inr (.inl (1701606245)))]) (st' := [.inl (8), .inr (.inl (1701606245))]) (σ' := σ) rfl ?_
  obtain ⟨c0, _⟩ : p_letterOf (1701606245) (8) := ⟨by decide, trivial⟩
  refine wk_callp tt_332 rfl rfl rfl rfl rfl tt_279 rfl (by decide) (w_letterOf z σ (1701606245) (8) (by decide) (by decide) ⟨c0, trivial⟩) ?_
  rw [show (v_letterOf (1701606245) (8)) = 115 from by decide]
  refine wk_b tt_332 2 (pc' := 21) (ls' := [(5, .inl (115)), (4, .inl (8)), (2, .inr (.inl (212))), (0, .inr (.inl (1701606245)))]) (st' := [.inl (115)]) (σ' := σ) rfl ?_
  refine wk_if tt_332 (tgt := 28) rfl rfl (by decide) (fun _ => ?_) (fun (h : 115 = 0) => absurd h (by decide))
  refine wk_b tt_332 12 (pc' := 8) (ls' := [(4, .inl (0)), (2, .inr (.inl ((((40 * 212) + (sg_n (115))) - 96)))), (5, .inl (115)), (0, .inr (.inl (1701606245)))]) (st' := [.inl (0)]) (σ' := σ) rfl ?_
  rw [show (sg_n (115)) = 115 from by rw [sg_id (by decide)]]
  show wx z 2 332 8 [(4, .inl (0)), (2, .inr (.inl (8499))), (5, .inl (115)), (0, .inr (.inl (1701606245)))] [.inl (0)] σ (fun v σ' => v = some (.inr (.inl (339965))) ∧ σ' = σ)
  refine wk_if tt_332 (tgt := 48) rfl rfl (by decide) (fun (h : 0 < 0) => absurd h (by decide)) (fun _ => ?_)
  refine wk_b tt_332 2 (pc' := 14) (ls' := [(4, .inl (0)), (2, .inr (.inl (8499))), (5, .inl (115)), (0, .inr (.inl (1701606245)))]) (st' := [.inl (0), .inr (.inl (1701606245))]) (σ' := σ) rfl ?_
  obtain ⟨c0, _⟩ : p_letterOf (1701606245) (0) := ⟨by decide, trivial⟩
  refine wk_callp tt_332 rfl rfl rfl rfl rfl tt_279 rfl (by decide) (w_letterOf z σ (1701606245) (0) (by decide) (by decide) ⟨c0, trivial⟩) ?_
  rw [show (v_letterOf (1701606245) (0)) = 101 from by decide]
  refine wk_b tt_332 2 (pc' := 21) (ls' := [(5, .inl (101)), (4, .inl (0)), (2, .inr (.inl (8499))), (0, .inr (.inl (1701606245)))]) (st' := [.inl (101)]) (σ' := σ) rfl ?_
  refine wk_if tt_332 (tgt := 28) rfl rfl (by decide) (fun _ => ?_) (fun (h : 101 = 0) => absurd h (by decide))
  refine wk_b tt_332 12 (pc' := 8) (ls' := [(4, .inl ((-8))), (2, .inr (.inl ((((40 * 8499) + (sg_n (101))) - 96)))), (5, .inl (101)), (0, .inr (.inl (1701606245)))]) (st' := [.inl ((-8))]) (σ' := σ) rfl ?_
  rw [show (sg_n (101)) = 101 from by rw [sg_id (by decide)]]
  show wx z 2 332 8 [(4, .inl ((-8))), (2, .inr (.inl (339965))), (5, .inl (101)), (0, .inr (.inl (1701606245)))] [.inl ((-8))] σ (fun v σ' => v = some (.inr (.inl (339965))) ∧ σ' = σ)
  refine wk_if tt_332 (tgt := 48) rfl rfl (by decide) (fun _ => ?_) (fun (h : 0 ≤ (-8)) => absurd h (by decide))
  refine wk_b tt_332 1 (pc' := 49) (ls' := [(4, .inl ((-8))), (2, .inr (.inl (339965))), (5, .inl (101)), (0, .inr (.inl (1701606245)))]) (st' := [.inr (.inl (339965))]) (σ' := σ) rfl ?_
  exact wk_rL tt_332 rfl rfl ⟨rfl, rfl⟩
-- told
set_option maxHeartbeats 4000000 in
set_option maxRecDepth 8000 in
theorem w_told_6909556 (z : Value) (σ : sg_S) : wx z 2 332 0 [(0, .inr (.inl (6909556)))] [] σ (fun v σ' => v = some (.inr (.inl (14980))) ∧ σ' = σ) := by
  refine wk_b tt_332 5 (pc' := 8) (ls' := [(4, .inl (56)), (2, .inr (.inl (0))), (0, .inr (.inl (6909556)))]) (st' := [.inl (56)]) (σ' := σ) rfl ?_
  refine wk_if tt_332 (tgt := 48) rfl rfl (by decide) (fun (h : 56 < 0) => absurd h (by decide)) (fun _ => ?_)
  refine wk_b tt_332 2 (pc' := 14) (ls' := [(4, .inl (56)), (2, .inr (.inl (0))), (0, .inr (.inl (6909556)))]) (st' := [.inl (56), .inr (.inl (6909556))]) (σ' := σ) rfl ?_
  obtain ⟨c0, _⟩ : p_letterOf (6909556) (56) := ⟨by decide, trivial⟩
  refine wk_callp tt_332 rfl rfl rfl rfl rfl tt_279 rfl (by decide) (w_letterOf z σ (6909556) (56) (by decide) (by decide) ⟨c0, trivial⟩) ?_
  rw [show (v_letterOf (6909556) (56)) = 0 from by decide]
  refine wk_b tt_332 2 (pc' := 21) (ls' := [(5, .inl (0)), (4, .inl (56)), (2, .inr (.inl (0))), (0, .inr (.inl (6909556)))]) (st' := [.inl (0)]) (σ' := σ) rfl ?_
  refine wk_if tt_332 (tgt := 28) rfl rfl (by decide) (fun (h : ¬ 0 = 0) => absurd h (by decide)) (fun _ => ?_)
  refine wk_b tt_332 6 (pc' := 8) (ls' := [(4, .inl (48)), (2, .inr (.inl (0))), (5, .inl (0)), (0, .inr (.inl (6909556)))]) (st' := [.inl (48)]) (σ' := σ) rfl ?_
  refine wk_if tt_332 (tgt := 48) rfl rfl (by decide) (fun (h : 48 < 0) => absurd h (by decide)) (fun _ => ?_)
  refine wk_b tt_332 2 (pc' := 14) (ls' := [(4, .inl (48)), (2, .inr (.inl (0))), (5, .inl (0)), (0, .inr (.inl (6909556)))]) (st' := [.inl (48), .inr (.inl (6909556))]) (σ' := σ) rfl ?_
  obtain ⟨c0, _⟩ : p_letterOf (6909556) (48) := ⟨by decide, trivial⟩
  refine wk_callp tt_332 rfl rfl rfl rfl rfl tt_279 rfl (by decide) (w_letterOf z σ (6909556) (48) (by decide) (by decide) ⟨c0, trivial⟩) ?_
  rw [show (v_letterOf (6909556) (48)) = 0 from by decide]
  refine wk_b tt_332 2 (pc' := 21) (ls' := [(5, .inl (0)), (4, .inl (48)), (2, .inr (.inl (0))), (0, .inr (.inl (6909556)))]) (st' := [.inl (0)]) (σ' := σ) rfl ?_
  refine wk_if tt_332 (tgt := 28) rfl rfl (by decide) (fun (h : ¬ 0 = 0) => absurd h (by decide)) (fun _ => ?_)
  refine wk_b tt_332 6 (pc' := 8) (ls' := [(4, .inl (40)), (2, .inr (.inl (0))), (5, .inl (0)), (0, .inr (.inl (6909556)))]) (st' := [.inl (40)]) (σ' := σ) rfl ?_
  refine wk_if tt_332 (tgt := 48) rfl rfl (by decide) (fun (h : 40 < 0) => absurd h (by decide)) (fun _ => ?_)
  refine wk_b tt_332 2 (pc' := 14) (ls' := [(4, .inl (40)), (2, .inr (.inl (0))), (5, .inl (0)), (0, .inr (.inl (6909556)))]) (st' := [.inl (40), .inr (.inl (6909556))]) (σ' := σ) rfl ?_
  obtain ⟨c0, _⟩ : p_letterOf (6909556) (40) := ⟨by decide, trivial⟩
  refine wk_callp tt_332 rfl rfl rfl rfl rfl tt_279 rfl (by decide) (w_letterOf z σ (6909556) (40) (by decide) (by decide) ⟨c0, trivial⟩) ?_
  rw [show (v_letterOf (6909556) (40)) = 0 from by decide]
  refine wk_b tt_332 2 (pc' := 21) (ls' := [(5, .inl (0)), (4, .inl (40)), (2, .inr (.inl (0))), (0, .inr (.inl (6909556)))]) (st' := [.inl (0)]) (σ' := σ) rfl ?_
  refine wk_if tt_332 (tgt := 28) rfl rfl (by decide) (fun (h : ¬ 0 = 0) => absurd h (by decide)) (fun _ => ?_)
  refine wk_b tt_332 6 (pc' := 8) (ls' := [(4, .inl (32)), (2, .inr (.inl (0))), (5, .inl (0)), (0, .inr (.inl (6909556)))]) (st' := [.inl (32)]) (σ' := σ) rfl ?_
  refine wk_if tt_332 (tgt := 48) rfl rfl (by decide) (fun (h : 32 < 0) => absurd h (by decide)) (fun _ => ?_)
  refine wk_b tt_332 2 (pc' := 14) (ls' := [(4, .inl (32)), (2, .inr (.inl (0))), (5, .inl (0)), (0, .inr (.inl (6909556)))]) (st' := [.inl (32), .inr (.inl (6909556))]) (σ' := σ) rfl ?_
  obtain ⟨c0, _⟩ : p_letterOf (6909556) (32) := ⟨by decide, trivial⟩
  refine wk_callp tt_332 rfl rfl rfl rfl rfl tt_279 rfl (by decide) (w_letterOf z σ (6909556) (32) (by decide) (by decide) ⟨c0, trivial⟩) ?_
  rw [show (v_letterOf (6909556) (32)) = 0 from by decide]
  refine wk_b tt_332 2 (pc' := 21) (ls' := [(5, .inl (0)), (4, .inl (32)), (2, .inr (.inl (0))), (0, .inr (.inl (6909556)))]) (st' := [.inl (0)]) (σ' := σ) rfl ?_
  refine wk_if tt_332 (tgt := 28) rfl rfl (by decide) (fun (h : ¬ 0 = 0) => absurd h (by decide)) (fun _ => ?_)
  refine wk_b tt_332 6 (pc' := 8) (ls' := [(4, .inl (24)), (2, .inr (.inl (0))), (5, .inl (0)), (0, .inr (.inl (6909556)))]) (st' := [.inl (24)]) (σ' := σ) rfl ?_
  refine wk_if tt_332 (tgt := 48) rfl rfl (by decide) (fun (h : 24 < 0) => absurd h (by decide)) (fun _ => ?_)
  refine wk_b tt_332 2 (pc' := 14) (ls' := [(4, .inl (24)), (2, .inr (.inl (0))), (5, .inl (0)), (0, .inr (.inl (6909556)))]) (st' := [.inl (24), .inr (.inl (6909556))]) (σ' := σ) rfl ?_
  obtain ⟨c0, _⟩ : p_letterOf (6909556) (24) := ⟨by decide, trivial⟩
  refine wk_callp tt_332 rfl rfl rfl rfl rfl tt_279 rfl (by decide) (w_letterOf z σ (6909556) (24) (by decide) (by decide) ⟨c0, trivial⟩) ?_
  rw [show (v_letterOf (6909556) (24)) = 0 from by decide]
  refine wk_b tt_332 2 (pc' := 21) (ls' := [(5, .inl (0)), (4, .inl (24)), (2, .inr (.inl (0))), (0, .inr (.inl (6909556)))]) (st' := [.inl (0)]) (σ' := σ) rfl ?_
  refine wk_if tt_332 (tgt := 28) rfl rfl (by decide) (fun (h : ¬ 0 = 0) => absurd h (by decide)) (fun _ => ?_)
  refine wk_b tt_332 6 (pc' := 8) (ls' := [(4, .inl (16)), (2, .inr (.inl (0))), (5, .inl (0)), (0, .inr (.inl (6909556)))]) (st' := [.inl (16)]) (σ' := σ) rfl ?_
  refine wk_if tt_332 (tgt := 48) rfl rfl (by decide) (fun (h : 16 < 0) => absurd h (by decide)) (fun _ => ?_)
  refine wk_b tt_332 2 (pc' := 14) (ls' := [(4, .inl (16)), (2, .inr (.inl (0))), (5, .inl (0)), (0, .inr (.inl (6909556)))]) (st' := [.inl (16), .inr (.inl (6909556))]) (σ' := σ) rfl ?_
  obtain ⟨c0, _⟩ : p_letterOf (6909556) (16) := ⟨by decide, trivial⟩
  refine wk_callp tt_332 rfl rfl rfl rfl rfl tt_279 rfl (by decide) (w_letterOf z σ (6909556) (16) (by decide) (by decide) ⟨c0, trivial⟩) ?_
  rw [show (v_letterOf (6909556) (16)) = 105 from by decide]
  refine wk_b tt_332 2 (pc' := 21) (ls' := [(5, .inl (105)), (4, .inl (16)), (2, .inr (.inl (0))), (0, .inr (.inl (6909556)))]) (st' := [.inl (105)]) (σ' := σ) rfl ?_
  refine wk_if tt_332 (tgt := 28) rfl rfl (by decide) (fun _ => ?_) (fun (h : 105 = 0) => absurd h (by decide))
  refine wk_b tt_332 12 (pc' := 8) (ls' := [(4, .inl (8)), (2, .inr (.inl ((((40 * 0) + (sg_n (105))) - 96)))), (5, .inl (105)), (0, .inr (.inl (6909556)))]) (st' := [.inl (8)]) (σ' := σ) rfl ?_
  rw [show (sg_n (105)) = 105 from by rw [sg_id (by decide)]]
  show wx z 2 332 8 [(4, .inl (8)), (2, .inr (.inl (9))), (5, .inl (105)), (0, .inr (.inl (6909556)))] [.inl (8)] σ (fun v σ' => v = some (.inr (.inl (14980))) ∧ σ' = σ)
  refine wk_if tt_332 (tgt := 48) rfl rfl (by decide) (fun (h : 8 < 0) => absurd h (by decide)) (fun _ => ?_)
  refine wk_b tt_332 2 (pc' := 14) (ls' := [(4, .inl (8)), (2, .inr (.inl (9))), (5, .inl (105)), (0, .inr (.inl (6909556)))]) (st' := [.inl (8), .inr (.inl (6909556))]) (σ' := σ) rfl ?_
  obtain ⟨c0, _⟩ : p_letterOf (6909556) (8) := ⟨by decide, trivial⟩
  refine wk_callp tt_332 rfl rfl rfl rfl rfl tt_279 rfl (by decide) (w_letterOf z σ (6909556) (8) (by decide) (by decide) ⟨c0, trivial⟩) ?_
  rw [show (v_letterOf (6909556) (8)) = 110 from by decide]
  refine wk_b tt_332 2 (pc' := 21) (ls' := [(5, .inl (110)), (4, .inl (8)), (2, .inr (.inl (9))), (0, .inr (.inl (6909556)))]) (st' := [.inl (110)]) (σ' := σ) rfl ?_
  refine wk_if tt_332 (tgt := 28) rfl rfl (by decide) (fun _ => ?_) (fun (h : 110 = 0) => absurd h (by decide))
  refine wk_b tt_332 12 (pc' := 8) (ls' := [(4, .inl (0)), (2, .inr (.inl ((((40 * 9) + (sg_n (110))) - 96)))), (5, .inl (110)), (0, .inr (.inl (6909556)))]) (st' := [.inl (0)]) (σ' := σ) rfl ?_
  rw [show (sg_n (110)) = 110 from by rw [sg_id (by decide)]]
  show wx z 2 332 8 [(4, .inl (0)), (2, .inr (.inl (374))), (5, .inl (110)), (0, .inr (.inl (6909556)))] [.inl (0)] σ (fun v σ' => v = some (.inr (.inl (14980))) ∧ σ' = σ)
  refine wk_if tt_332 (tgt := 48) rfl rfl (by decide) (fun (h : 0 < 0) => absurd h (by decide)) (fun _ => ?_)
  refine wk_b tt_332 2 (pc' := 14) (ls' := [(4, .inl (0)), (2, .inr (.inl (374))), (5, .inl (110)), (0, .inr (.inl (6909556)))]) (st' := [.inl (0), .inr (.inl (6909556))]) (σ' := σ) rfl ?_
  obtain ⟨c0, _⟩ : p_letterOf (6909556) (0) := ⟨by decide, trivial⟩
  refine wk_callp tt_332 rfl rfl rfl rfl rfl tt_279 rfl (by decide) (w_letterOf z σ (6909556) (0) (by decide) (by decide) ⟨c0, trivial⟩) ?_
  rw [show (v_letterOf (6909556) (0)) = 116 from by decide]
  refine wk_b tt_332 2 (pc' := 21) (ls' := [(5, .inl (116)), (4, .inl (0)), (2, .inr (.inl (374))), (0, .inr (.inl (6909556)))]) (st' := [.inl (116)]) (σ' := σ) rfl ?_
  refine wk_if tt_332 (tgt := 28) rfl rfl (by decide) (fun _ => ?_) (fun (h : 116 = 0) => absurd h (by decide))
  refine wk_b tt_332 12 (pc' := 8) (ls' := [(4, .inl ((-8))), (2, .inr (.inl ((((40 * 374) + (sg_n (116))) - 96)))), (5, .inl (116)), (0, .inr (.inl (6909556)))]) (st' := [.inl ((-8))]) (σ' := σ) rfl ?_
  rw [show (sg_n (116)) = 116 from by rw [sg_id (by decide)]]
  show wx z 2 332 8 [(4, .inl ((-8))), (2, .inr (.inl (14980))), (5, .inl (116)), (0, .inr (.inl (6909556)))] [.inl ((-8))] σ (fun v σ' => v = some (.inr (.inl (14980))) ∧ σ' = σ)
  refine wk_if tt_332 (tgt := 48) rfl rfl (by decide) (fun _ => ?_) (fun (h : 0 ≤ (-8)) => absurd h (by decide))
  refine wk_b tt_332 1 (pc' := 49) (ls' := [(4, .inl ((-8))), (2, .inr (.inl (14980))), (5, .inl (116)), (0, .inr (.inl (6909556)))]) (st' := [.inr (.inl (14980))]) (σ' := σ) rfl ?_
  exact wk_rL tt_332 rfl rfl ⟨rfl, rfl⟩
def v_told (a : Int) : Int := (if a = 6579558 then (6606 : Int) else (if a = 7103860 then (19420 : Int) else (if a = 26990 then (374 : Int) else (if a = 26982 then (366 : Int) else (if a = 1952998766 then (1293014 : Int) else (if a = 1701606245 then (339965 : Int) else (if a = 6909556 then (14980 : Int) else (0 : Int))))))))
def p_told (a : Int) : Prop := a = 6579558 ∨ a = 7103860 ∨ a = 26990 ∨ a = 26982 ∨ a = 1952998766 ∨ a = 1701606245 ∨ a = 6909556
theorem w_told (z : Value) (σ : sg_S) (a : Int) (_ : sg_RL a) (w : p_told a) : wx z 2 332 0 [(0, .inr (.inl (a)))] [] σ (fun v σ' => v = some (.inr (.inl (v_told a))) ∧ σ' = σ) := by
  rcases w with h | h | h | h | h | h | h
  · subst h; exact w_told_6579558 z σ
  · subst h; exact w_told_7103860 z σ
  · subst h; exact w_told_26990 z σ
  · subst h; exact w_told_26982 z σ
  · subst h; exact w_told_1952998766 z σ
  · subst h; exact w_told_1701606245 z σ
  · subst h; exact w_told_6909556 z σ
theorem vr_told (a : Int) (_ : sg_RL a) (_ : p_told a) : sg_RL (v_told a) := by
  unfold v_told
  repeat (first | decide | split)
-- NestedVectorsModel.isWord
def v_isWord (σ : sg_S) (a1 : Int) : Int := (if ¬ (sg_g σ 90 ((sg_g σ 88 7))) = 2 then (0 : Int) else (if ¬ (sg_gl σ 92 ((sg_g σ 88 7))) = (v_told (a1)) then (0 : Int) else (1 : Int)))
def p_isWord (σ : sg_S) (a1 : Int) : Prop := (0 ≤ (sg_g σ 88 7) ∧ (sg_g σ 88 7) < 1210) ∧ ((¬ (sg_g σ 90 ((sg_g σ 88 7))) = 2 → True) ∧ ((sg_g σ 90 ((sg_g σ 88 7))) = 2 → p_told (a1) ∧ ((¬ (sg_gl σ 92 ((sg_g σ 88 7))) = (v_told (a1)) → True) ∧ ((sg_gl σ 92 ((sg_g σ 88 7))) = (v_told (a1)) → True))))
theorem vz_isWord {σ : sg_S} {a1 : Int} : v_isWord σ a1 = 0 ∨ v_isWord σ a1 = 1 := by
  unfold v_isWord
  by_cases h : ¬ (sg_g σ 90 ((sg_g σ 88 7))) = 2
  · rw [if_pos h]
    exact Or.inl rfl
  · rw [if_neg h]
    by_cases h : ¬ (sg_gl σ 92 ((sg_g σ 88 7))) = (v_told (a1))
    · rw [if_pos h]
      exact Or.inl rfl
    · rw [if_neg h]
      exact Or.inr rfl
set_option maxHeartbeats 4000000 in
set_option maxRecDepth 8000 in
theorem w_isWord (z : Value) (σ : sg_S) (a1 : Int) (ra1 : sg_RL a1) (w : p_isWord σ a1) : wx z 3 269 0 [(0, .inr (.inr (.ref 88))), (1, .inr (.inl (a1)))] [] σ (fun v σ' => v = some (.inl (v_isWord σ a1)) ∧ σ' = σ) := by
  unfold p_isWord at w
  refine wk_b tt_269 4 (pc' := 8) (ls' := [(0, .inr (.inr (.ref 88))), (1, .inr (.inl (a1)))]) (st' := [.inl ((sg_g σ 88 7)), .inr (.inr (.ref 90))]) (σ' := σ) rfl ?_
  obtain ⟨c1, w⟩ := w
  refine wk_ia tt_269 rfl rfl c1.1 c1.2 (sg_Rg _ _ _) ?_
  refine wk_b tt_269 1 (pc' := 10) (ls' := [(0, .inr (.inr (.ref 88))), (1, .inr (.inl (a1)))]) (st' := [.inl (2), .inl ((sg_g σ 90 ((sg_g σ 88 7))))]) (σ' := σ) rfl ?_
  refine wk_if2 tt_269 (tgt := 34) rfl rfl (sg_Rg _ _ _) (by decide) (fun (h2 : ¬ (sg_g σ 90 ((sg_g σ 88 7))) = 2) => ?_) (fun (h2 : (sg_g σ 90 ((sg_g σ 88 7))) = 2) => ?_)
  ·
    have w := w.1 h2
    refine wk_b tt_269 1 (pc' := 35) (ls' := [(0, .inr (.inr (.ref 88))), (1, .inr (.inl (a1)))]) (st' := [.inl (0)]) (σ' := σ) rfl ?_
    exact wk_rZ tt_269 rfl rfl (by decide) ⟨by rw [v_isWord, if_pos h2], rfl⟩
  ·
    have w := w.2 h2
    refine wk_b tt_269 4 (pc' := 21) (ls' := [(0, .inr (.inr (.ref 88))), (1, .inr (.inl (a1)))]) (st' := [.inl ((sg_g σ 88 7)), .inr (.inr (.ref 92))]) (σ' := σ) rfl ?_
    refine wk_la tt_269 rfl rfl c1.1 c1.2 (sg_Rg _ _ _) ?_
    refine wk_b tt_269 1 (pc' := 23) (ls' := [(0, .inr (.inr (.ref 88))), (1, .inr (.inl (a1)))]) (st' := [.inr (.inl (a1)), .inr (.inl ((sg_gl σ 92 ((sg_g σ 88 7)))))]) (σ' := σ) rfl ?_
    obtain ⟨c3, w⟩ := w
    refine wk_callp tt_269 rfl rfl rfl rfl rfl tt_332 rfl (by decide) (w_told z σ (a1) ra1 c3) ?_
    have r4 := vr_told  (a1) ra1 c3
    refine wk_lcif tt_269 (tgt := 34) rfl rfl rfl (sg_Rgl _ _ _) r4 (fun (h5 : ¬ (sg_gl σ 92 ((sg_g σ 88 7))) = (v_told (a1))) => ?_) (fun (h5 : (sg_gl σ 92 ((sg_g σ 88 7))) = (v_told (a1))) => ?_)
    ·
      have w := w.1 h5
      refine wk_b tt_269 1 (pc' := 35) (ls' := [(0, .inr (.inr (.ref 88))), (1, .inr (.inl (a1)))]) (st' := [.inl (0)]) (σ' := σ) rfl ?_
      exact wk_rZ tt_269 rfl rfl (by decide) ⟨by rw [v_isWord, if_neg (show ¬ (¬ (sg_g σ 90 ((sg_g σ 88 7))) = 2) by omega), if_pos h5], rfl⟩
    ·
      have w := w.2 h5
      refine wk_b tt_269 2 (pc' := 35) (ls' := [(0, .inr (.inr (.ref 88))), (1, .inr (.inl (a1)))]) (st' := [.inl (1)]) (σ' := σ) rfl ?_
      exact wk_rZ tt_269 rfl rfl (by decide) ⟨by rw [v_isWord, if_neg (show ¬ (¬ (sg_g σ 90 ((sg_g σ 88 7))) = 2) by omega), if_neg (show ¬ (¬ (sg_gl σ 92 ((sg_g σ 88 7))) = (v_told (a1))) by omega)], rfl⟩
theorem vF_isWord {L : List Nat} {σ σ' : sg_S} {a1 : Int} (hF : sg_F L σ σ') (h0 : sg_cv L 88 7 = false) (h1 : sg_ca L 90 = true) (h2 : sg_ca L 92 = true) : v_isWord σ' a1 = v_isWord σ a1 := by
  unfold v_isWord
  simp only [sg_F_g hF h0, sg_F_gl hF h0, sg_F_ga (k := _) hF h1, sg_F_gal (k := _) hF h1, sg_F_ga (k := _) hF h2, sg_F_gal (k := _) hF h2]
theorem pF_isWord {L : List Nat} {σ σ' : sg_S} {a1 : Int} (hF : sg_F L σ σ') (h0 : sg_cv L 88 7 = false) (h1 : sg_ca L 90 = true) (h2 : sg_ca L 92 = true) : p_isWord σ' a1 = p_isWord σ a1 := by
  unfold p_isWord
  simp only [sg_F_g hF h0, sg_F_gl hF h0, sg_F_ga (k := _) hF h1, sg_F_gal (k := _) hF h1, sg_F_ga (k := _) hF h2, sg_F_gal (k := _) hF h2]
-- NestedVectorsModel.pile
def V_pile (σ : sg_S) (a1 : Int) (a2 : Int) (Q : sg_S → Prop) : Prop := (0 ≤ (sg_g σ 88 31) ∧ (sg_g σ 88 31) < 4000) ∧ ∀ σ2, σ2 = (sg_w σ 110 ((sg_g σ 88 31)) (a1)) → ∀ σ5, σ5 = (sg_w σ2 111 ((sg_g σ 88 31)) (a2)) → sg_R ((sg_g σ 88 31) + 1) ∧ ∀ σ9, σ9 = (sg_w σ5 88 31 (((sg_g σ 88 31) + 1))) → Q σ9
set_option maxHeartbeats 4000000 in
set_option maxRecDepth 8000 in
theorem w_pile (z : Value) (σ : sg_S) (a1 : Int) (a2 : Int) (Q : sg_S → Prop) (ra1 : sg_R a1) (ra2 : sg_R a2) (w : V_pile σ a1 a2 Q) : wx z 0 305 0 [(0, .inr (.inr (.ref 88))), (1, .inl (a1)), (2, .inl (a2))] [] σ (fun v σ' => v = none ∧ sg_F [110, 111, 32088] σ σ' ∧ Q σ') := by
  unfold V_pile at w
  refine wk_b tt_305 5 (pc' := 9) (ls' := [(0, .inr (.inr (.ref 88))), (1, .inl (a1)), (2, .inl (a2))]) (st' := [.inl (a1), .inl ((sg_g σ 88 31)), .inr (.inr (.ref 110))]) (σ' := σ) rfl ?_
  obtain ⟨c1, w⟩ := w
  refine wk_is tt_305 rfl rfl c1.1 c1.2 (sg_Rg _ _ _) ?_
  generalize hs3 : (sg_w σ 110 ((sg_g σ 88 31)) (a1)) = σ2
  have w := w σ2 hs3.symm
  have hF4 : sg_F [110] σ σ2 := by rw [← hs3]; exact sg_F_w (sg_F_r _ _) rfl _
  refine wk_b tt_305 5 (pc' := 19) (ls' := [(0, .inr (.inr (.ref 88))), (1, .inl (a1)), (2, .inl (a2))]) (st' := [.inl (a2), .inl ((sg_g σ2 88 31)), .inr (.inr (.ref 111))]) (σ' := σ2) rfl ?_
  rw [show (sg_g σ2 88 31) = (sg_g σ 88 31) from by rw [sg_F_ga hF4 rfl]]
  refine wk_is tt_305 rfl rfl c1.1 c1.2 (sg_Rg _ _ _) ?_
  generalize hs6 : (sg_w σ2 111 ((sg_g σ 88 31)) (a2)) = σ5
  have w := w σ5 hs6.symm
  have hF7 : sg_F [111] σ2 σ5 := by rw [← hs6]; exact sg_F_w (sg_F_r _ _) rfl _
  obtain ⟨c8, w⟩ := w
  refine wk_b tt_305 6 (pc' := 30) (ls' := [(0, .inr (.inr (.ref 88))), (1, .inl (a1)), (2, .inl (a2))]) (st' := []) (σ' := (sg_w σ5 88 31 (((sg_g σ5 88 31) + 1)))) rfl ?_
  rw [show (sg_g σ5 88 31) = (sg_g σ 88 31) from by rw [sg_F_ga hF7 rfl, sg_F_ga hF4 rfl]]
  generalize hs10 : (sg_w σ5 88 31 (((sg_g σ 88 31) + 1))) = σ9
  have w := w σ9 hs10.symm
  have hF11 : sg_F [32088] σ5 σ9 := by rw [← hs10]; exact sg_F_w (sg_F_r _ _) rfl _
  exact wk_rV tt_305 rfl rfl ⟨rfl, (sg_F_t (sg_F_t (sg_F_t (sg_F_r [110, 111, 32088] σ) (sg_F_m (L := [110, 111, 32088]) hF4 rfl)) (sg_F_m (L := [110, 111, 32088]) hF7 rfl)) (sg_F_m (L := [110, 111, 32088]) hF11 rfl)), w⟩
-- NestedVectorsModel.newNode
def V_newNode (σ : sg_S) (a1 : Int) (Q : Int → sg_S → Prop) : Prop := ((¬ (sg_g σ 88 8) = 200 → (0 ≤ (sg_g σ 88 8) ∧ (sg_g σ 88 8) < 210) ∧ ∀ σ3, σ3 = (sg_w σ 93 ((sg_g σ 88 8)) (a1)) → (0 ≤ (sg_g σ 88 7) ∧ (sg_g σ 88 7) < 1210) ∧ ∀ σ7, σ7 = (sg_w σ3 94 ((sg_g σ 88 8)) ((sg_g σ 91 ((sg_g σ 88 7))))) → ∀ σ10, σ10 = (sg_wl σ7 95 ((sg_g σ 88 8)) ((sg_gl σ 92 ((sg_g σ 88 7))))) → ∀ σ13, σ13 = (sg_w σ10 96 ((sg_g σ 88 8)) (0)) → ∀ σ16, σ16 = (sg_w σ13 98 ((sg_g σ 88 8)) (0)) → sg_R ((sg_g σ 88 8) + 1) ∧ ∀ σ20, σ20 = (sg_w σ16 88 8 (((sg_g σ 88 8) + 1))) → sg_R (((sg_g σ 88 8) + 1) - 1) ∧ Q ((((sg_g σ 88 8) + 1) - 1)) σ20) ∧ ((sg_g σ 88 8) = 200 → (0 ≤ (sg_g σ 88 7) ∧ (sg_g σ 88 7) < 1210) ∧ V_wrong σ (1) ((sg_g σ 91 ((sg_g σ 88 7)))) (fun σ26 => sg_F [30088, 31088] σ σ26 → Q (0) σ26)))
set_option maxHeartbeats 4000000 in
set_option maxRecDepth 8000 in
theorem w_newNode (z : Value) (σ : sg_S) (a1 : Int) (Q : Int → sg_S → Prop) (ra1 : sg_R a1) (w : V_newNode σ a1 Q) : wx z 1 294 0 [(0, .inr (.inr (.ref 88))), (1, .inl (a1))] [] σ (fun v σ' => ∃ q, v = some (.inl q) ∧ sg_R q ∧ sg_F [93, 94, 95, 96, 98, 9088, 30088, 31088] σ σ' ∧ Q q σ') := by
  unfold V_newNode at w
  refine wk_b tt_294 3 (pc' := 7) (ls' := [(0, .inr (.inr (.ref 88))), (1, .inl (a1))]) (st' := [.inl (200), .inl ((sg_g σ 88 8))]) (σ' := σ) rfl ?_
  refine wk_if2 tt_294 (tgt := 26) rfl rfl (sg_Rg _ _ _) (by decide) (fun (h1 : ¬ (sg_g σ 88 8) = 200) => ?_) (fun (h1 : (sg_g σ 88 8) = 200) => ?_)
  ·
    have w := w.1 h1
    refine wk_b tt_294 5 (pc' := 35) (ls' := [(0, .inr (.inr (.ref 88))), (1, .inl (a1))]) (st' := [.inl (a1), .inl ((sg_g σ 88 8)), .inr (.inr (.ref 93))]) (σ' := σ) rfl ?_
    obtain ⟨c2, w⟩ := w
    refine wk_is tt_294 rfl rfl c2.1 c2.2 (sg_Rg _ _ _) ?_
    generalize hs4 : (sg_w σ 93 ((sg_g σ 88 8)) (a1)) = σ3
    have w := w σ3 hs4.symm
    have hF5 : sg_F [93] σ σ3 := by rw [← hs4]; exact sg_F_w (sg_F_r _ _) rfl _
    refine wk_b tt_294 8 (pc' := 52) (ls' := [(0, .inr (.inr (.ref 88))), (1, .inl (a1))]) (st' := [.inl ((sg_g σ3 88 7)), .inr (.inr (.ref 91)), .inl ((sg_g σ3 88 8)), .inr (.inr (.ref 94))]) (σ' := σ3) rfl ?_
    rw [show (sg_g σ3 88 8) = (sg_g σ 88 8) from by rw [sg_F_ga hF5 rfl]]
    rw [show (sg_g σ3 88 7) = (sg_g σ 88 7) from by rw [sg_F_ga hF5 rfl]]
    obtain ⟨c6, w⟩ := w
    refine wk_ia tt_294 rfl rfl c6.1 c6.2 (sg_Rg _ _ _) ?_
    rw [show (sg_g σ3 91 ((sg_g σ 88 7))) = (sg_g σ 91 ((sg_g σ 88 7))) from by rw [sg_F_ga hF5 rfl]]
    refine wk_is tt_294 rfl rfl c2.1 c2.2 (sg_Rg _ _ _) ?_
    generalize hs8 : (sg_w σ3 94 ((sg_g σ 88 8)) ((sg_g σ 91 ((sg_g σ 88 7))))) = σ7
    have w := w σ7 hs8.symm
    have hF9 : sg_F [94] σ3 σ7 := by rw [← hs8]; exact sg_F_w (sg_F_r _ _) rfl _
    refine wk_b tt_294 8 (pc' := 70) (ls' := [(0, .inr (.inr (.ref 88))), (1, .inl (a1))]) (st' := [.inl ((sg_g σ7 88 7)), .inr (.inr (.ref 92)), .inl ((sg_g σ7 88 8)), .inr (.inr (.ref 95))]) (σ' := σ7) rfl ?_
    rw [show (sg_g σ7 88 8) = (sg_g σ 88 8) from by rw [sg_F_ga hF9 rfl, sg_F_ga hF5 rfl]]
    rw [show (sg_g σ7 88 7) = (sg_g σ 88 7) from by rw [sg_F_ga hF9 rfl, sg_F_ga hF5 rfl]]
    refine wk_la tt_294 rfl rfl c6.1 c6.2 (sg_Rg _ _ _) ?_
    rw [show (sg_gl σ7 92 ((sg_g σ 88 7))) = (sg_gl σ 92 ((sg_g σ 88 7))) from by rw [sg_F_gal hF9 rfl, sg_F_gal hF5 rfl]]
    refine wk_lS tt_294 rfl rfl c2.1 c2.2 (sg_Rg _ _ _) ?_
    generalize hs11 : (sg_wl σ7 95 ((sg_g σ 88 8)) ((sg_gl σ 92 ((sg_g σ 88 7))))) = σ10
    have w := w σ10 hs11.symm
    have hF12 : sg_F [95] σ7 σ10 := by rw [← hs11]; exact sg_F_wl (sg_F_r _ _) rfl _
    refine wk_b tt_294 5 (pc' := 81) (ls' := [(0, .inr (.inr (.ref 88))), (1, .inl (a1))]) (st' := [.inl (0), .inl ((sg_g σ10 88 8)), .inr (.inr (.ref 96))]) (σ' := σ10) rfl ?_
    rw [show (sg_g σ10 88 8) = (sg_g σ 88 8) from by rw [sg_F_ga hF12 rfl, sg_F_ga hF9 rfl, sg_F_ga hF5 rfl]]
    refine wk_is tt_294 rfl rfl c2.1 c2.2 (sg_Rg _ _ _) ?_
    generalize hs14 : (sg_w σ10 96 ((sg_g σ 88 8)) (0)) = σ13
    have w := w σ13 hs14.symm
    have hF15 : sg_F [96] σ10 σ13 := by rw [← hs14]; exact sg_F_w (sg_F_r _ _) rfl _
    refine wk_b tt_294 5 (pc' := 91) (ls' := [(0, .inr (.inr (.ref 88))), (1, .inl (a1))]) (st' := [.inl (0), .inl ((sg_g σ13 88 8)), .inr (.inr (.ref 98))]) (σ' := σ13) rfl ?_
    rw [show (sg_g σ13 88 8) = (sg_g σ 88 8) from by rw [sg_F_ga hF15 rfl, sg_F_ga hF12 rfl, sg_F_ga hF9 rfl, sg_F_ga hF5 rfl]]
    refine wk_is tt_294 rfl rfl c2.1 c2.2 (sg_Rg _ _ _) ?_
    generalize hs17 : (sg_w σ13 98 ((sg_g σ 88 8)) (0)) = σ16
    have w := w σ16 hs17.symm
    have hF18 : sg_F [98] σ13 σ16 := by rw [← hs17]; exact sg_F_w (sg_F_r _ _) rfl _
    obtain ⟨c19, w⟩ := w
    refine wk_b tt_294 6 (pc' := 102) (ls' := [(0, .inr (.inr (.ref 88))), (1, .inl (a1))]) (st' := []) (σ' := (sg_w σ16 88 8 (((sg_g σ16 88 8) + 1)))) rfl ?_
    rw [show (sg_g σ16 88 8) = (sg_g σ 88 8) from by rw [sg_F_ga hF18 rfl, sg_F_ga hF15 rfl, sg_F_ga hF12 rfl, sg_F_ga hF9 rfl, sg_F_ga hF5 rfl]]
    generalize hs21 : (sg_w σ16 88 8 (((sg_g σ 88 8) + 1))) = σ20
    have w := w σ20 hs21.symm
    have hF22 : sg_F [9088] σ16 σ20 := by rw [← hs21]; exact sg_F_w (sg_F_r _ _) rfl _
    obtain ⟨c23, w⟩ := w
    refine wk_b tt_294 4 (pc' := 108) (ls' := [(0, .inr (.inr (.ref 88))), (1, .inl (a1))]) (st' := [.inl (((sg_g σ20 88 8) - 1))]) (σ' := σ20) rfl ?_
    rw [show (sg_g σ20 88 8) = ((sg_g σ 88 8) + 1) from by rw [(show sg_g σ20 88 8 = ((sg_g σ 88 8) + 1) from by rw [← hs21]; exact sg_gw_e _ _ _ _ c19)]]
    exact wk_rI tt_294 rfl rfl ⟨_, rfl, c23, (sg_F_t (sg_F_t (sg_F_t (sg_F_t (sg_F_t (sg_F_t (sg_F_r [93, 94, 95, 96, 98, 9088, 30088, 31088] σ) (sg_F_m (L := [93, 94, 95, 96, 98, 9088, 30088, 31088]) hF5 rfl)) (sg_F_m (L := [93, 94, 95, 96, 98, 9088, 30088, 31088]) hF9 rfl)) (sg_F_m (L := [93, 94, 95, 96, 98, 9088, 30088, 31088]) hF12 rfl)) (sg_F_m (L := [93, 94, 95, 96, 98, 9088, 30088, 31088]) hF15 rfl)) (sg_F_m (L := [93, 94, 95, 96, 98, 9088, 30088, 31088]) hF18 rfl)) (sg_F_m (L := [93, 94, 95, 96, 98, 9088, 30088, 31088]) hF22 rfl)), w⟩
  ·
    have w := w.2 h1
    refine wk_b tt_294 6 (pc' := 20) (ls' := [(0, .inr (.inr (.ref 88))), (1, .inl (a1))]) (st' := [.inl ((sg_g σ 88 7)), .inr (.inr (.ref 91)), .inl (1), .inr (.inr (.ref 88))]) (σ' := σ) rfl ?_
    obtain ⟨c24, w⟩ := w
    refine wk_ia tt_294 rfl rfl c24.1 c24.2 (sg_Rg _ _ _) ?_
    refine wk_call tt_294 rfl rfl rfl rfl rfl tt_336 rfl (by decide) (w_wrong z σ (1) ((sg_g σ 91 ((sg_g σ 88 7)))) _ (by decide) (sg_Rg _ _ _) w) (fun u30 σ26 hq28 => ?_)
    obtain ⟨rfl, hF27, w⟩ := hq28
    have w := w hF27
    refine wk_b tt_294 1 (pc' := 25) (ls' := [(0, .inr (.inr (.ref 88))), (1, .inl (a1))]) (st' := [.inl (0)]) (σ' := σ26) rfl ?_
    exact wk_rI tt_294 rfl rfl ⟨_, rfl, (by decide), (sg_F_t (sg_F_r [93, 94, 95, 96, 98, 9088, 30088, 31088] σ) (sg_F_m (L := [93, 94, 95, 96, 98, 9088, 30088, 31088]) hF27 rfl)), w⟩
-- NestedVectorsModel.want
def V_want (σ : sg_S) (a1 : Int) (Q : sg_S → Prop) : Prop := (∃ P3 : sg_S → Prop, ((¬ a1 = 0 → P3 σ) ∧ (a1 = 0 → (0 ≤ (sg_g σ 88 7) ∧ (sg_g σ 88 7) < 1210) ∧ V_wrong σ (1) ((sg_g σ 91 ((sg_g σ 88 7)))) (fun σ14 => sg_F [30088, 31088] σ σ14 → P3 σ14))) ∧ (∀ (σ4 : sg_S), sg_F [30088, 31088] σ σ4 → P3 σ4 → ((¬ (sg_g σ4 88 29) = 0 → Q σ4) ∧ ((sg_g σ4 88 29) = 0 → sg_R ((sg_g σ 88 7) + 1) ∧ ∀ σ9, σ9 = (sg_w σ4 88 7 (((sg_g σ 88 7) + 1))) → Q σ9))))
set_option maxHeartbeats 4000000 in
set_option maxRecDepth 8000 in
theorem w_want (z : Value) (σ : sg_S) (a1 : Int) (Q : sg_S → Prop) (ra1 : sg_R a1) (w : V_want σ a1 Q) : wx z 1 334 0 [(0, .inr (.inr (.ref 88))), (1, .inl (a1))] [] σ (fun v σ' => v = none ∧ sg_F [8088, 30088, 31088] σ σ' ∧ Q σ') := by
  unfold V_want at w
  refine wk_b tt_334 1 (pc' := 1) (ls' := [(0, .inr (.inr (.ref 88))), (1, .inl (a1))]) (st' := [.inl (a1)]) (σ' := σ) rfl ?_
  obtain ⟨P3, w, w6⟩ := w
  have jn2 : ∀ (σ4 : sg_S), sg_F [30088, 31088] σ σ4 → P3 σ4 → wx z 1 334 18 [(0, .inr (.inr (.ref 88)))] [] σ4 (fun v σ' => v = none ∧ sg_F [8088, 30088, 31088] σ σ' ∧ Q σ') := by
    intro σ4 hF5 w
    have w := w6 σ4 hF5 w
    refine wk_b tt_334 2 (pc' := 22) (ls' := [(0, .inr (.inr (.ref 88)))]) (st' := [.inl ((sg_g σ4 88 29))]) (σ' := σ4) rfl ?_
    refine wk_if tt_334 (tgt := 35) rfl rfl (sg_Rg _ _ _) (fun (h7 : ¬ (sg_g σ4 88 29) = 0) => ?_) (fun (h7 : (sg_g σ4 88 29) = 0) => ?_)
    ·
      have w := w.1 h7
      exact wk_rV tt_334 rfl rfl ⟨rfl, (sg_F_t (sg_F_r [8088, 30088, 31088] σ) (sg_F_m (L := [8088, 30088, 31088]) hF5 rfl)), w⟩
    ·
      have w := w.2 h7
      obtain ⟨c8, w⟩ := w
      refine wk_b tt_334 6 (pc' := 35) (ls' := [(0, .inr (.inr (.ref 88)))]) (st' := []) (σ' := (sg_w σ4 88 7 (((sg_g σ4 88 7) + 1)))) rfl ?_
      rw [show (sg_g σ4 88 7) = (sg_g σ 88 7) from by rw [sg_F_g hF5 rfl]]
      generalize hs10 : (sg_w σ4 88 7 (((sg_g σ 88 7) + 1))) = σ9
      have w := w σ9 hs10.symm
      have hF11 : sg_F [8088] σ4 σ9 := by rw [← hs10]; exact sg_F_w (sg_F_r _ _) rfl _
      exact wk_rV tt_334 rfl rfl ⟨rfl, (sg_F_t (sg_F_t (sg_F_r [8088, 30088, 31088] σ) (sg_F_m (L := [8088, 30088, 31088]) hF5 rfl)) (sg_F_m (L := [8088, 30088, 31088]) hF11 rfl)), w⟩
  refine wk_if tt_334 (tgt := 18) rfl rfl ra1 (fun (h1 : ¬ a1 = 0) => ?_) (fun (h1 : a1 = 0) => ?_)
  ·
    have w := w.1 h1
    exact wk_ls [(0, .inr (.inr (.ref 88)))] rfl ⟨rfl, trivial⟩ (jn2 σ (sg_F_r [30088, 31088] σ) w)
  ·
    have w := w.2 h1
    refine wk_b tt_334 6 (pc' := 14) (ls' := [(0, .inr (.inr (.ref 88))), (1, .inl (a1))]) (st' := [.inl ((sg_g σ 88 7)), .inr (.inr (.ref 91)), .inl (1), .inr (.inr (.ref 88))]) (σ' := σ) rfl ?_
    obtain ⟨c12, w⟩ := w
    refine wk_ia tt_334 rfl rfl c12.1 c12.2 (sg_Rg _ _ _) ?_
    refine wk_call tt_334 rfl rfl rfl rfl rfl tt_336 rfl (by decide) (w_wrong z σ (1) ((sg_g σ 91 ((sg_g σ 88 7)))) _ (by decide) (sg_Rg _ _ _) w) (fun u18 σ14 hq16 => ?_)
    obtain ⟨rfl, hF15, w⟩ := hq16
    have w := w hF15
    exact wk_ls [(0, .inr (.inr (.ref 88)))] rfl ⟨rfl, trivial⟩ (jn2 σ14 (sg_F_t (sg_F_r [30088, 31088] σ) (sg_F_m (L := [30088, 31088]) hF15 rfl)) w)
