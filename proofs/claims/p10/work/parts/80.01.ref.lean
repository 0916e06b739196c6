/-! Conditions of the reference's methods, by program (1). -/
-- told
set_option maxHeartbeats 4000000 in
set_option maxRecDepth 8000 in
theorem w_told_7170414 (z : Value) (σ : sg_S) : wx z 2 332 0 [(0, .inr (.inl (7170414)))] [] σ (fun v σ' => v = some (.inr (.inl (21174))) ∧ σ' = σ) := by
  refine wk_b tt_332 5 (pc' := 8) (ls' := [(4, .inl (56)), (2, .inr (.inl (0))), (0, .inr (.inl (7170414)))]) (st' := [.inl (56)]) (σ' := σ) rfl ?_
  refine wk_if tt_332 (tgt := 48) rfl rfl (by decide) (fun (h : 56 < 0) => absurd h (by decide)) (fun _ => ?_)
  refine wk_b tt_332 2 (pc' := 14) (ls' := [(4, .inl (56)), (2, .inr (.inl (0))), (0, .inr (.inl (7170414)))]) (st' := [.inl (56), .inr (.inl (7170414))]) (σ' := σ) rfl ?_
  obtain ⟨c0, _⟩ : p_letterOf (7170414) (56) := ⟨by decide, trivial⟩
  refine wk_callp tt_332 rfl rfl rfl rfl rfl tt_279 rfl (by decide) (w_letterOf z σ (7170414) (56) (by decide) (by decide) ⟨c0, trivial⟩) ?_
  rw [show (v_letterOf (7170414) (56)) = 0 from by decide]
  refine wk_b tt_332 2 (pc' := 21) (ls' := [(5, .inl (0)), (4, .inl (56)), (2, .inr (.inl (0))), (0, .inr (.inl (7170414)))]) (st' := [.inl (0)]) (σ' := σ) rfl ?_
  refine wk_if tt_332 (tgt := 28) rfl rfl (by decide) (fun (h : ¬ 0 = 0) => absurd h (by decide)) (fun _ => ?_)
  refine wk_b tt_332 6 (pc' := 8) (ls' := [(4, .inl (48)), (2, .inr (.inl (0))), (5, .inl (0)), (0, .inr (.inl (7170414)))]) (st' := [.inl (48)]) (σ' := σ) rfl ?_
  refine wk_if tt_332 (tgt := 48) rfl rfl (by decide) (fun (h : 48 < 0) => absurd h (by decide)) (fun _ => ?_)
  refine wk_b tt_332 2 (pc' := 14) (ls' := [(4, .inl (48)), (2, .inr (.inl (0))), (5, .inl (0)), (0, .inr (.inl (7170414)))]) (st' := [.inl (48), .inr (.inl (7170414))]) (σ' := σ) rfl ?_
  obtain ⟨c0, _⟩ : p_letterOf (7170414) (48) := ⟨by decide, trivial⟩
  refine wk_callp tt_332 rfl rfl rfl rfl rfl tt_279 rfl (by decide) (w_letterOf z σ (7170414) (48) (by decide) (by decide) ⟨c0, trivial⟩) ?_
  rw [show (v_letterOf (7170414) (48)) = 0 from by decide]
  refine wk_b tt_332 2 (pc' := 21) (ls' := [(5, .inl (0)), (4, .inl (48)), (2, .inr (.inl (0))), (0, .inr (.inl (7170414)))]) (st' := [.inl (0)]) (σ' := σ) rfl ?_
  refine wk_if tt_332 (tgt := 28) rfl rfl (by decide) (fun (h : ¬ 0 = 0) => absurd h (by decide)) (fun _ => ?_)
  refine wk_b tt_332 6 (pc' := 8) (ls' := [(4, .inl (40)), (2, .inr (.inl (0))), (5, .inl (0)), (0, .inr (.inl (7170414)))]) (st' := [.inl (40)]) (σ' := σ) rfl ?_
  refine wk_if tt_332 (tgt := 48) rfl rfl (by decide) (fun (h : 40 < 0) => absurd h (by decide)) (fun _ => ?_)
  refine wk_b tt_332 2 (pc' := 14) (ls' := [(4, .inl (40)), (2, .inr (.inl (0))), (5, .inl (0)), (0, .inr (.inl (7170414)))]) (st' := [.inl (40), .inr (.inl (7170414))]) (σ' := σ) rfl ?_
  obtain ⟨c0, _⟩ : p_letterOf (7170414) (40) := ⟨by decide, trivial⟩
  refine wk_callp tt_332 rfl rfl rfl rfl rfl tt_279 rfl (by decide) (w_letterOf z σ (7170414) (40) (by decide) (by decide) ⟨c0, trivial⟩) ?_
  rw [show (v_letterOf (7170414) (40)) = 0 from by decide]
  refine wk_b tt_332 2 (pc' := 21) (ls' := [(5, .inl (0)), (4, .inl (40)), (2, .inr (.inl (0))), (0, .inr (.inl (7170414)))]) (st' := [.inl (0)]) (σ' := σ) rfl ?_
  refine wk_if tt_332 (tgt := 28) rfl rfl (by decide) (fun (h : ¬ 0 = 0) => absurd h (by decide)) (fun _ => ?_)
  refine wk_b tt_332 6 (pc' := 8) (ls' := [(4, .inl (32)), (2, .inr (.inl (0))), (5, .inl (0)), (0, .inr (.inl (7170414)))]) (st' := [.inl (32)]) (σ' := σ) rfl ?_
  refine wk_if tt_332 (tgt := 48) rfl rfl (by decide) (fun (h : 32 < 0) => absurd h (by decide)) (fun _ => ?_)
  refine wk_b tt_332 2 (pc' := 14) (ls' := [(4, .inl (32)), (2, .inr (.inl (0))), (5, .inl (0)), (0, .inr (.inl (7170414)))]) (st' := [.inl (32), .inr (.inl (7170414))]) (σ' := σ) rfl ?_
  obtain ⟨c0, _⟩ : p_letterOf (7170414) (32) := ⟨by decide, trivial⟩
  refine wk_callp tt_332 rfl rfl rfl rfl rfl tt_279 rfl (by decide) (w_letterOf z σ (7170414) (32) (by decide) (by decide) ⟨c0, trivial⟩) ?_
  rw [show (v_letterOf (7170414) (32)) = 0 from by decide]
  refine wk_b tt_332 2 (pc' := 21) (ls' := [(5, .inl (0)), (4, .inl (32)), (2, .inr (.inl (0))), (0, .inr (.inl (7170414)))]) (st' := [.inl (0)]) (σ' := σ) rfl ?_
  refine wk_if tt_332 (tgt := 28) rfl rfl (by decide) (fun (h : ¬ 0 = 0) => absurd h (by decide)) (fun _ => ?_)
  refine wk_b tt_332 6 (pc' := 8) (ls' := [(4, .inl (24)), (2, .inr (.inl (0))), (5, .inl (0)), (0, .inr (.inl (7170414)))]) (st' := [.inl (24)]) (σ' := σ) rfl ?_
  refine wk_if tt_332 (tgt := 48) rfl rfl (by decide) (fun (h : 24 < 0) => absurd h (by decide)) (fun _ => ?_)
  refine wk_b tt_332 2 (pc' := 14) (ls' := [(4, .inl (24)), (2, .inr (.inl (0))), (5, .inl (0)), (0, .inr (.inl (7170414)))]) (st' := [.inl (24), .inr (.inl (7170414))]) (σ' := σ) rfl ?_
  obtain ⟨c0, _⟩ : p_letterOf (7170414) (24) := ⟨by decide, trivial⟩
  refine wk_callp tt_332 rfl rfl rfl rfl rfl tt_279 rfl (by decide) (w_letterOf z σ (7170414) (24) (by decide) (by decide) ⟨c0, trivial⟩) ?_
  rw [show (v_letterOf (7170414) (24)) = 0 from by decide]
  refine wk_b tt_332 2 (pc' := 21) (ls' := [(5, .inl (0)), (4, .inl (24)), (2, .inr (.inl (0))), (0, .inr (.inl (7170414)))]) (st' := [.inl (0)]) (σ' := σ) rfl ?_
  refine wk_if tt_332 (tgt := 28) rfl rfl (by decide) (fun (h : ¬ 0 = 0) => absurd h (by decide)) (fun _ => ?_)
  refine wk_b tt_332 6 (pc' := 8) (ls' := [(4, .inl (16)), (2, .inr (.inl (0))), (5, .inl (0)), (0, .inr (.inl (7170414)))]) (st' := [.inl (16)]) (σ' := σ) rfl ?_
  refine wk_if tt_332 (tgt := 48) rfl rfl (by decide) (fun (h : 16 < 0) => absurd h (by decide)) (fun _ => ?_)
  refine wk_b tt_332 2 (pc' := 14) (ls' := [(4, .inl (16)), (2, .inr (.inl (0))), (5, .inl (0)), (0, .inr (.inl (7170414)))]) (st' := [.inl (16), .inr (.inl (7170414))]) (σ' := σ) rfl ?_
  obtain ⟨c0, _⟩ : p_letterOf (7170414) (16) := ⟨by decide, trivial⟩
  refine wk_callp tt_332 rfl rfl rfl rfl rfl tt_279 rfl (by decide) (w_letterOf z σ (7170414) (16) (by decide) (by decide) ⟨c0, trivial⟩) ?_
  rw [show (v_letterOf (7170414) (16)) = 109 from by decide]
  refine wk_b tt_332 2 (pc' := 21) (ls' := [(5, .inl (109)), (4, .inl (16)), (2, .inr (.inl (0))), (0, .inr (.inl (7170414)))]) (st' := [.inl (109)]) (σ' := σ) rfl ?_
  refine wk_if tt_332 (tgt := 28) rfl rfl (by decide) (fun _ => ?_) (fun (h : 109 = 0) => absurd h (by decide))
  refine wk_b tt_332 12 (pc' := 8) (ls' := [(4, .inl (8)), (2, .inr (.inl ((((40 * 0) + (sg_n (109))) - 96)))), (5, .inl (109)), (0, .inr (.inl (7170414)))]) (st' := [.inl (8)]) (σ' := σ) rfl ?_
  rw [show (sg_n (109)) = 109 from by rw [sg_id (by decide)]]
  show wx z 2 332 8 [(4, .inl (8)), (2, .inr (.inl (13))), (5, .inl (109)), (0, .inr (.inl (7170414)))] [.inl (8)] σ (fun v σ' => v = some (.inr (.inl (21174))) ∧ σ' = σ)
  refine wk_if tt_332 (tgt := 48) rfl rfl (by decide) (fun (h : 8 < 0) => absurd h (by decide)) (fun _ => ?_)
  refine wk_b tt_332 2 (pc' := 14) (ls' := [(4, .inl (8)), (2, .inr (.inl (13))), (5, .inl (109)), (0, .inr (.inl (7170414)))]) (st' := [.inl (8), .inr (.inl (7170414))]) (σ' := σ) rfl ?_
  obtain ⟨c0, _⟩ : p_letterOf (7170414) (8) := ⟨by decide, trivial⟩
  refine wk_callp tt_332 rfl rfl rfl rfl rfl tt_279 rfl (by decide) (w_letterOf z σ (7170414) (8) (by decide) (by decide) ⟨c0, trivial⟩) ?_
  rw [show (v_letterOf (7170414) (8)) = 105 from by decide]
  refine wk_b tt_332 2 (pc' := 21) (ls' := [(5, .inl (105)), (4, .inl (8)), (2, .inr (.inl (13))), (0, .inr (.inl (7170414)))]) (st' := [.inl (105)]) (σ' := σ) rfl ?_
  refine wk_if tt_332 (tgt := 28) rfl rfl (by decide) (fun _ => ?_) (fun (h : 105 = 0) => absurd h (by decide))
  refine wk_b tt_332 12 (pc' := 8) (ls' := [(4, .inl (0)), (2, .inr (.inl ((((40 * 13) + (sg_n (105))) - 96)))), (5, .inl (105)), (0, .inr (.inl (7170414)))]) (st' := [.inl (0)]) (σ' := σ) rfl ?_
  rw [show (sg_n (105)) = 105 from by rw [sg_id (by decide)]]
  show wx z 2 332 8 [(4, .inl (0)), (2, .inr (.inl (529))), (5, .inl (105)), (0, .inr (.inl (7170414)))] [.inl (0)] σ (fun v σ' => v = some (.inr (.inl (21174))) ∧ σ' = σ)
  refine wk_if tt_332 (tgt := 48) rfl rfl (by decide) (fun (h : 0 < 0) => absurd h (by decide)) (fun _ => ?_)
  refine wk_b tt_332 2 (pc' := 14) (ls' := [(4, .inl (0)), (2, .inr (.inl (529))), (5, .inl (105)), (0, .inr (.inl (7170414)))]) (st' := [.inl (0), .inr (.inl (7170414))]) (σ' := σ) rfl ?_
  obtain ⟨c0, _⟩ : p_letterOf (7170414) (0) := ⟨by decide, trivial⟩
  refine wk_callp tt_332 rfl rfl rfl rfl rfl tt_279 rfl (by decide) (w_letterOf z σ (7170414) (0) (by decide) (by decide) ⟨c0, trivial⟩) ?_
  rw [show (v_letterOf (7170414) (0)) = 110 from by decide]
  refine wk_b tt_332 2 (pc' := 21) (ls' := [(5, .inl (110)), (4, .inl (0)), (2, .inr (.inl (529))), (0, .inr (.inl (7170414)))]) (st' := [.inl (110)]) (σ' := σ) rfl ?_
  refine wk_if tt_332 (tgt := 28) rfl rfl (by decide) (fun _ => ?_) (fun (h : 110 = 0) => absurd h (by decide))
  refine wk_b tt_332 12 (pc' := 8) (ls' := [(4, .inl ((-8))), (2, .inr (.inl ((((40 * 529) + (sg_n (110))) - 96)))), (5, .inl (110)), (0, .inr (.inl (7170414)))]) (st' := [.inl ((-8))]) (σ' := σ) rfl ?_
  rw [show (sg_n (110)) = 110 from by rw [sg_id (by decide)]]
  show wx z 2 332 8 [(4, .inl ((-8))), (2, .inr (.inl (21174))), (5, .inl (110)), (0, .inr (.inl (7170414)))] [.inl ((-8))] σ (fun v σ' => v = some (.inr (.inl (21174))) ∧ σ' = σ)
  refine wk_if tt_332 (tgt := 48) rfl rfl (by decide) (fun _ => ?_) (fun (h : 0 ≤ (-8)) => absurd h (by decide))
  refine wk_b tt_332 1 (pc' := 49) (ls' := [(4, .inl ((-8))), (2, .inr (.inl (21174))), (5, .inl (110)), (0, .inr (.inl (7170414)))]) (st' := [.inr (.inl (21174))]) (σ' := σ) rfl ?_
  exact wk_rL tt_332 rfl rfl ⟨rfl, rfl⟩
-- told
set_option maxHeartbeats 4000000 in
set_option maxRecDepth 8000 in
theorem w_told_1935892846 (z : Value) (σ : sg_S) : wx z 2 332 0 [(0, .inr (.inl (1935892846)))] [] σ (fun v σ' => v = some (.inr (.inl (1220854))) ∧ σ' = σ) := by
  refine wk_b tt_332 5 (pc' := 8) (ls' := [(4, .inl (56)), (2, .inr (.inl (0))), (0, .inr (.inl (1935892846)))]) (st' := [.inl (56)]) (σ' := σ) rfl ?_
  refine wk_if tt_332 (tgt := 48) rfl rfl (by decide) (fun (h : 56 < 0) => absurd h (by decide)) (fun _ => ?_)
  refine wk_b tt_332 2 (pc' := 14) (ls' := [(4, .inl (56)), (2, .inr (.inl (0))), (0, .inr (.inl (1935892846)))]) (st' := [.inl (56), .inr (.inl (1935892846))]) (σ' := σ) rfl ?_
  obtain ⟨c0, _⟩ : p_letterOf (1935892846) (56) := ⟨by decide, trivial⟩
  refine wk_callp tt_332 rfl rfl rfl rfl rfl tt_279 rfl (by decide) (w_letterOf z σ (1935892846) (56) (by decide) (by decide) ⟨c0, trivial⟩) ?_
  rw [show (v_letterOf (1935892846) (56)) = 0 from by decide]
  refine wk_b tt_332 2 (pc' := 21) (ls' := [(5, .inl (0)), (4, .inl (56)), (2, .inr (.inl (0))), (0, .inr (.inl (1935892846)))]) (st' := [.inl (0)]) (σ' := σ) rfl ?_
  refine wk_if tt_332 (tgt := 28) rfl rfl (by decide) (fun (h : ¬ 0 = 0) => absurd h (by decide)) (fun _ => ?_)
  refine wk_b tt_332 6 (pc' := 8) (ls' := [(4, .inl (48)), (2, .inr (.inl (0))), (5, .inl (0)), (0, .inr (.inl (1935892846)))]) (st' := [.inl (48)]) (σ' := σ) rfl ?_
  refine wk_if tt_332 (tgt := 48) rfl rfl (by decide) (fun (h : 48 < 0) => absurd h (by decide)) (fun _ => ?_)
  refine wk_b tt_332 2 (pc' := 14) (ls' := [(4, .inl (48)), (2, .inr (.inl (0))), (5, .inl (0)), (0, .inr (.inl (1935892846)))]) (st' := [.inl (48), .inr (.inl (1935892846))]) (σ' := σ) rfl ?_
  obtain ⟨c0, _⟩ : p_letterOf (1935892846) (48) := ⟨by decide, trivial⟩
  refine wk_callp tt_332 rfl rfl rfl rfl rfl tt_279 rfl (by decide) (w_letterOf z σ (1935892846) (48) (by decide) (by decide) ⟨c0, trivial⟩) ?_
  rw [show (v_letterOf (1935892846) (48)) = 0 from by decide]
  refine wk_b tt_332 2 (pc' := 21) (ls' := [(5, .inl (0)), (4, .inl (48)), (2, .inr (.inl (0))), (0, .inr (.inl (1935892846)))]) (st' := [.inl (0)]) (σ' := σ) rfl ?_
  refine wk_if tt_332 (tgt := 28) rfl rfl (by decide) (fun (h : ¬ 0 = 0) => absurd h (by decide)) (fun _ => ?_)
  refine wk_b tt_332 6 (pc' := 8) (ls' := [(4, .inl (40)), (2, .inr (.inl (0))), (5, .inl (0)), (0, .inr (.inl (1935892846)))]) (st' := [.inl (40)]) (σ' := σ) rfl ?_
  refine wk_if tt_332 (tgt := 48) rfl rfl (by decide) (fun (h : 40 < 0) => absurd h (by decide)) (fun _ => ?_)
  refine wk_b tt_332 2 (pc' := 14) (ls' := [(4, .inl (40)), (2, .inr (.inl (0))), (5, .inl (0)), (0, .inr (.inl (1935892846)))]) (st' := [.inl (40), .inr (.inl (1935892846))]) (σ' := σ) rfl ?_
  obtain ⟨c0, _⟩ : p_letterOf (1935892846) (40) := ⟨by decide, trivial⟩
  refine wk_callp tt_332 rfl rfl rfl rfl rfl tt_279 rfl (by decide) (w_letterOf z σ (1935892846) (40) (by decide) (by decide) ⟨c0, trivial⟩) ?_
  rw [show (v_letterOf (1935892846) (40)) = 0 from by decide]
  refine wk_b tt_332 2 (pc' := 21) (ls' := [(5, .inl (0)), (4, .inl (40)), (2, .inr (.inl (0))), (0, .inr (.inl (1935892846)))]) (st' := [.inl (0)]) (σ' := σ) rfl ?_
  refine wk_if tt_332 (tgt := 28) rfl rfl (by decide) (fun (h : ¬ 0 = 0) => absurd h (by decide)) (fun _ => ?_)
  refine wk_b tt_332 6 (pc' := 8) (ls' := [(4, .inl (32)), (2, .inr (.inl (0))), (5, .inl (0)), (0, .inr (.inl (1935892846)))]) (st' := [.inl (32)]) (σ' := σ) rfl ?_
  refine wk_if tt_332 (tgt := 48) rfl rfl (by decide) (fun (h : 32 < 0) => absurd h (by decide)) (fun _ => ?_)
  refine wk_b tt_332 2 (pc' := 14) (ls' := [(4, .inl (32)), (2, .inr (.inl (0))), (5, .inl (0)), (0, .inr (.inl (1935892846)))]) (st' := [.inl (32), .inr (.inl (1935892846))]) (σ' := σ) rfl ?_
  obtain ⟨c0, _⟩ : p_letterOf (1935892846) (32) := ⟨by decide, trivial⟩
  refine wk_callp tt_332 rfl rfl rfl rfl rfl tt_279 rfl (by decide) (w_letterOf z σ (1935892846) (32) (by decide) (by decide) ⟨c0, trivial⟩) ?_
  rw [show (v_letterOf (1935892846) (32)) = 0 from by decide]
  refine wk_b tt_332 2 (pc' := 21) (ls' := [(5, .inl (0)), (4, .inl (32)), (2, .inr (.inl (0))), (0, .inr (.inl (1935892846)))]) (st' := [.inl (0)]) (σ' := σ) rfl ?_
  refine wk_if tt_332 (tgt := 28) rfl rfl (by decide) (fun (h : ¬ 0 = 0) => absurd h (by decide)) (fun _ => ?_)
  refine wk_b tt_332 6 (pc' := 8) (ls' := [(4, .inl (24)), (2, .inr (.inl (0))), (5, .inl (0)), (0, .inr (.inl (1935892846)))]) (st' := [.inl (24)]) (σ' := σ) rfl ?_
  refine wk_if tt_332 (tgt := 48) rfl rfl (by decide) (fun (h : 24 < 0) => absurd h (by decide)) (fun _ => ?_)
  refine wk_b tt_332 2 (pc' := 14) (ls' := [(4, .inl (24)), (2, .inr (.inl (0))), (5, .inl (0)), (0, .inr (.inl (1935892846)))]) (st' := [.inl (24), .inr (.inl (1935892846))]) (σ' := σ) rfl ?_
  obtain ⟨c0, _⟩ : p_letterOf (1935892846) (24) := ⟨by decide, trivial⟩
  refine wk_callp tt_332 rfl rfl rfl rfl rfl tt_279 rfl (by decide) (w_letterOf z σ (1935892846) (24) (by decide) (by decide) ⟨c0, trivial⟩) ?_
  rw [show (v_letterOf (1935892846) (24)) = 115 from by decide]
  refine wk_b tt_332 2 (pc' := 21) (ls' := [(5, .inl (115)), (4, .inl (24)), (2, .inr (.inl (0))), (0, .inr (.inl (1935892846)))]) (st' := [.inl (115)]) (σ' := σ) rfl ?_
  refine wk_if tt_332 (tgt := 28) rfl rfl (by decide) (fun _ => ?_) (fun (h : 115 = 0) => absurd h (by decide))
  refine wk_b tt_332 12 (pc' := 8) (ls' := [(4, .inl (16)), (2, .inr (.inl ((((40 * 0) + (sg_n (115))) - 96)))), (5, .inl (115)), (0, .inr (.inl (1935892846)))]) (st' := [.inl (16)]) (σ' := σ) rfl ?_
  rw [show (sg_n (115)) = 115 from by rw [sg_id (by decide)]]
  show wx z 2 332 8 [(4, .inl (16)), (2, .inr (.inl (19))), (5, .inl (115)), (0, .inr (.inl (1935892846)))] [.inl (16)] σ (fun v σ' => v = some (.inr (.inl (1220854))) ∧ σ' = σ)
  refine wk_if tt_332 (tgt := 48) rfl rfl (by decide) (fun (h : 16 < 0) => absurd h (by decide)) (fun _ => ?_)
  refine wk_b tt_332 2 (pc' := 14) (ls' := [(4, .inl (16)), (2, .inr (.inl (19))), (5, .inl (115)), (0, .inr (.inl (1935892846)))]) (st' := [.inl (16), .inr (.inl (1935892846))]) (σ' := σ) rfl ?_
  obtain ⟨c0, _⟩ : p_letterOf (1935892846) (16) := ⟨by decide, trivial⟩
  refine wk_callp tt_332 rfl rfl rfl rfl rfl tt_279 rfl (by decide) (w_letterOf z σ (1935892846) (16) (by decide) (by decide) ⟨c0, trivial⟩) ?_
  rw [show (v_letterOf (1935892846) (16)) = 99 from by decide]
  refine wk_b tt_332 2 (pc' := 21) (ls' := [(5, .inl (99)), (4, .inl (16)), (2, .inr (.inl (19))), (0, .inr (.inl (1935892846)))]) (st' := [.inl (99)]) (σ' := σ) rfl ?_
  refine wk_if tt_332 (tgt := 28) rfl rfl (by decide) (fun _ => ?_) (fun (h : 99 = 0) => absurd h (by decide))
  refine wk_b tt_332 12 (pc' := 8) (ls' := [(4, .inl (8)), (2, .inr (.inl ((((40 * 19) + (sg_n (99))) - 96)))), (5, .inl (99)), (0, .inr (.inl (1935892846)))]) (st' := [.inl (8)]) (σ' := σ) rfl ?_
  rw [show (sg_n (99)) = 99 from by rw [sg_id (by decide)]]
  show wx z 2 332 8 [(4, .inl (8)), (2, .inr (.inl (763))), (5, .inl (99)), (0, .inr (.inl (1935892846)))] [.inl (8)] σ (fun v σ' => v = some (.inr (.inl (1220854))) ∧ σ' = σ)
  refine wk_if tt_332 (tgt := 48) rfl rfl (by decide) (fun (h : 8 < 0) => absurd h (by decide)) (fun _ => ?_)
  refine wk_b tt_332 2 (pc' := 14) (ls' := [(4, .inl (8)), (2, .inr (.inl (763))), (5, .inl (99)), (0, .inr (.inl (1935892846)))]) (st' := [.inl (8), .inr (.inl (1935892846))]) (σ' := σ) rfl ?_
  obtain ⟨c0, _⟩ : p_letterOf (1935892846) (8) := ⟨by decide, trivial⟩
  refine wk_callp tt_332 rfl rfl rfl rfl rfl tt_279 rfl (by decide) (w_letterOf z σ (1935892846) (8) (by decide) (by decide) ⟨c0, trivial⟩) ?_
  rw [show (v_letterOf (1935892846) (8)) = 97 from by decide]
  refine wk_b tt_332 2 (pc' := 21) (ls' := [(5, .inl (97)), (4, .inl (8)), (2, .inr (.inl (763))), (0, .inr (.inl (1935892846)))]) (st' := [.inl (97)]) (σ' := σ) rfl ?_
  refine wk_if tt_332 (tgt := 28) rfl rfl (by decide) (fun _ => ?_) (fun (h : 97 = 0) => absurd h (by decide))
  refine wk_b tt_332 12 (pc' := 8) (ls' := [(4, .inl (0)), (2, .inr (.inl ((((40 * 763) + (sg_n (97))) - 96)))), (5, .inl (97)), (0, .inr (.inl (1935892846)))]) (st' := [.inl (0)]) (σ' := σ) rfl ?_
  rw [show (sg_n (97)) = 97 from by rw [sg_id (by decide)]]
  show wx z 2 332 8 [(4, .inl (0)), (2, .inr (.inl (30521))), (5, .inl (97)), (0, .inr (.inl (1935892846)))] [.inl (0)] σ (fun v σ' => v = some (.inr (.inl (1220854))) ∧ σ' = σ)
  refine wk_if tt_332 (tgt := 48) rfl rfl (by decide) (fun (h : 0 < 0) => absurd h (by decide)) (fun _ => ?_)
  refine wk_b tt_332 2 (pc' := 14) (ls' := [(4, .inl (0)), (2, .inr (.inl (30521))), (5, .inl (97)), (0, .inr (.inl (1935892846)))]) (st' := [.inl (0), .inr (.inl (1935892846))]) (σ' := σ) rfl ?_
  obtain ⟨c0, _⟩ : p_letterOf (1935892846) (0) := ⟨by decide, trivial⟩
  refine wk_callp tt_332 rfl rfl rfl rfl rfl tt_279 rfl (by decide) (w_letterOf z σ (1935892846) (0) (by decide) (by decide) ⟨c0, trivial⟩) ?_
  rw [show (v_letterOf (1935892846) (0)) = 110 from by decide]
  refine wk_b tt_332 2 (pc' := 21) (ls' := [(5, .inl (110)), (4, .inl (0)), (2, .inr (.inl (30521))), (0, .inr (.inl (1935892846)))]) (st' := [.inl (110)]) (σ' := σ) rfl ?_
  refine wk_if tt_332 (tgt := 28) rfl rfl (by decide) (fun _ => ?_) (fun (h : 110 = 0) => absurd h (by decide))
  refine wk_b tt_332 12 (pc' := 8) (ls' := [(4, .inl ((-8))), (2, .inr (.inl ((((40 * 30521) + (sg_n (110))) - 96)))), (5, .inl (110)), (0, .inr (.inl (1935892846)))]) (st' := [.inl ((-8))]) (σ' := σ) rfl ?_
  rw [show (sg_n (110)) = 110 from by rw [sg_id (by decide)]]
  show wx z 2 332 8 [(4, .inl ((-8))), (2, .inr (.inl (1220854))), (5, .inl (110)), (0, .inr (.inl (1935892846)))] [.inl ((-8))] σ (fun v σ' => v = some (.inr (.inl (1220854))) ∧ σ' = σ)
  refine wk_if tt_332 (tgt := 48) rfl rfl (by decide) (fun _ => ?_) (fun (h : 0 ≤ (-8)) => absurd h (by decide))
  refine wk_b tt_332 1 (pc' := 49) (ls' := [(4, .inl ((-8))), (2, .inr (.inl (1220854))), (5, .inl (110)), (0, .inr (.inl (1935892846)))]) (st' := [.inr (.inl (1220854))]) (σ' := σ) rfl ?_
  exact wk_rL tt_332 rfl rfl ⟨rfl, rfl⟩
-- told
set_option maxHeartbeats 4000000 in
set_option maxRecDepth 8000 in
theorem w_told_7497078 (z : Value) (σ : sg_S) : wx z 2 332 0 [(0, .inr (.inl (7497078)))] [] σ (fun v σ' => v = some (.inr (.inl (29022))) ∧ σ' = σ) := by
  refine wk_b tt_332 5 (pc' := 8) (ls' := [(4, .inl (56)), (2, .inr (.inl (0))), (0, .inr (.inl (7497078)))]) (st' := [.inl (56)]) (σ' := σ) rfl ?_
  refine wk_if tt_332 (tgt := 48) rfl rfl (by decide) (fun (h : 56 < 0) => absurd h (by decide)) (fun _ => ?_)
  refine wk_b tt_332 2 (pc' := 14) (ls' := [(4, .inl (56)), (2, .inr (.inl (0))), (0, .inr (.inl (7497078)))]) (st' := [.inl (56), .inr (.inl (7497078))]) (σ' := σ) rfl ?_
  obtain ⟨c0, _⟩ : p_letterOf (7497078) (56) := ⟨by decide, trivial⟩
  refine wk_callp tt_332 rfl rfl rfl rfl rfl tt_279 rfl (by decide) (w_letterOf z σ (7497078) (56) (by decide) (by decide) ⟨c0, trivial⟩) ?_
  rw [show (v_letterOf (7497078) (56)) = 0 from by decide]
  refine wk_b tt_332 2 (pc' := 21) (ls' := [(5, .inl (0)), (4, .inl (56)), (2, .inr (.inl (0))), (0, .inr (.inl (7497078)))]) (st' := [.inl (0)]) (σ' := σ) rfl ?_
  refine wk_if tt_332 (tgt := 28) rfl rfl (by decide) (fun (h : ¬ 0 = 0) => absurd h (by decide)) (fun _ => ?_)
  refine wk_b tt_332 6 (pc' := 8) (ls' := [(4, .inl (48)), (2, .inr (.inl (0))), (5, .inl (0)), (0, .inr (.inl (7497078)))]) (st' := [.inl (48)]) (σ' := σ) rfl ?_
  refine wk_if tt_332 (tgt := 48) rfl rfl (by decide) (fun (h : 48 < 0) => absurd h (by decide)) (fun _ => ?_)
  refine wk_b tt_332 2 (pc' := 14) (ls' := [(4, .inl (48)), (2, .inr (.inl (0))), (5, .inl (0)), (0, .inr (.inl (7497078)))]) (st' := [.inl (48), .inr (.inl (7497078))]) (σ' := σ) rfl ?_
  obtain ⟨c0, _⟩ : p_letterOf (7497078) (48) := ⟨by decide, trivial⟩
  refine wk_callp tt_332 rfl rfl rfl rfl rfl tt_279 rfl (by decide) (w_letterOf z σ (7497078) (48) (by decide) (by decide) ⟨c0, trivial⟩) ?_
  rw [show (v_letterOf (7497078) (48)) = 0 from by decide]
  refine wk_b tt_332 2 (pc' := 21) (ls' := [(5, .inl (0)), (4, .inl (48)), (2, .inr (.inl (0))), (0, .inr (.inl (7497078)))]) (st' := [.inl (0)]) (σ' := σ) rfl ?_
  refine wk_if tt_332 (tgt := 28) rfl rfl (by decide) (fun (h : ¬ 0 = 0) => absurd h (by decide)) (fun _ => ?_)
  refine wk_b tt_332 6 (pc' := 8) (ls' := [(4, .inl (40)), (2, .inr (.inl (0))), (5, .inl (0)), (0, .inr (.inl (7497078)))]) (st' := [.inl (40)]) (σ' := σ) rfl ?_
  refine wk_if tt_332 (tgt := 48) rfl rfl (by decide) (fun (h : 40 < 0) => absurd h (by decide)) (fun _ => ?_)
  refine wk_b tt_332 2 (pc' := 14) (ls' := [(4, .inl (40)), (2, .inr (.inl (0))), (5, .inl (0)), (0, .inr (.inl (7497078)))]) (st' := [.inl (40), .inr (.inl (7497078))]) (σ' := σ) rfl ?_
  obtain ⟨c0, _⟩ : p_letterOf (7497078) (40) := ⟨by decide, trivial⟩
  refine wk_callp tt_332 rfl rfl rfl rfl rfl tt_279 rfl (by decide) (w_letterOf z σ (7497078) (40) (by decide) (by decide) ⟨c0, trivial⟩) ?_
  rw [show (v_letterOf (7497078) (40)) = 0 from by decide]
  refine wk_b tt_332 2 (pc' := 21) (ls' := [(5, .inl (0)), (4, .inl (40)), (2, .inr (.inl (0))), (0, .inr (.inl (7497078)))]) (st' := [.inl (0)]) (σ' := σ) rfl ?_
  refine wk_if tt_332 (tgt := 28) rfl rfl (by decide) (fun (h : ¬ 0 = 0) => absurd h (by decide)) (fun _ => ?_)
  refine wk_b tt_332 6 (pc' := 8) (ls' := [(4, .inl (32)), (2, .inr (.inl (0))), (5, .inl (0)), (0, .inr (.inl (7497078)))]) (st' := [.inl (32)]) (σ' := σ) rfl ?_
  refine wk_if tt_332 (tgt := 48) rfl rfl (by decide) (fun (h : 32 < 0) => absurd h (by decide)) (fun _ => ?_)
  refine wk_b tt_332 2 (pc' := 14) (ls' := [(4, .inl (32)), (2, .inr (.inl (0))), (5, .inl (0)), (0, .inr (.inl (7497078)))]) (st' := [.inl (32), .inr (.inl (7497078))]) (σ' := σ) rfl ?_
  obtain ⟨c0, _⟩ : p_letterOf (7497078) (32) := ⟨by decide, trivial⟩
  refine wk_callp tt_332 rfl rfl rfl rfl rfl tt_279 rfl (by decide) (w_letterOf z σ (7497078) (32) (by decide) (by decide) ⟨c0, trivial⟩) ?_
  rw [show (v_letterOf (7497078) (32)) = 0 from by decide]
  refine wk_b tt_332 2 (pc' := 21) (ls' := [(5, .inl (0)), (4, .inl (32)), (2, .inr (.inl (0))), (0, .inr (.inl (7497078)))]) (st' := [.inl (0)]) (σ' := σ) rfl ?_
  refine wk_if tt_332 (tgt := 28) rfl rfl (by decide) (fun (h : ¬ 0 = 0) => absurd h (by decide)) (fun _ => ?_)
  refine wk_b tt_332 6 (pc' := 8) (ls' := [(4, .inl (24)), (2, .inr (.inl (0))), (5, .inl (0)), (0, .inr (.inl (7497078)))]) (st' := [.inl (24)]) (σ' := σ) rfl ?_
  refine wk_if tt_332 (tgt := 48) rfl rfl (by decide) (fun (h : 24 < 0) => absurd h (by decide)) (fun _ => ?_)
  refine wk_b tt_332 2 (pc' := 14) (ls' := [(4, .inl (24)), (2, .inr (.inl (0))), (5, .inl (0)), (0, .inr (.inl (7497078)))]) (st' := [.inl (24), .inr (.inl (7497078))]) (σ' := σ) rfl ?_
  obtain ⟨c0, _⟩ : p_letterOf (7497078) (24) := ⟨by decide, trivial⟩
  refine wk_callp tt_332 rfl rfl rfl rfl rfl tt_279 rfl (by decide) (w_letterOf z σ (7497078) (24) (by decide) (by decide) ⟨c0, trivial⟩) ?_
  rw [show (v_letterOf (7497078) (24)) = 0 from by decide]
  refine wk_b tt_332 2 (pc' := 21) (ls' := [(5, .inl (0)), (4, .inl (24)), (2, .inr (.inl (0))), (0, .inr (.inl (7497078)))]) (st' := [.inl (0)]) (σ' := σ) rfl ?_
  refine wk_if tt_332 (tgt := 28) rfl rfl (by decide) (fun (h : ¬ 0 = 0) => absurd h (by decide)) (fun _ => ?_)
  refine wk_b tt_332 6 (pc' := 8) (ls' := [(4, .inl (16)), (2, .inr (.inl (0))), (5, .inl (0)), (0, .inr (.inl (7497078)))]) (st' := [.inl (16)]) (σ' := σ) rfl ?_
  refine wk_if tt_332 (tgt := 48) rfl rfl (by decide) (fun (h : 16 < 0) => absurd h (by decide)) (fun _ => ?_)
  refine wk_b tt_332 2 (pc' := 14) (ls' := [(4, .inl (16)), (2, .inr (.inl (0))), (5, .inl (0)), (0, .inr (.inl (7497078)))]) (st' := [.inl (16), .inr (.inl (7497078))]) (σ' := σ) rfl ?_
  obtain ⟨c0, _⟩ : p_letterOf (7497078) (16) := ⟨by decide, trivial⟩
  refine wk_callp tt_332 rfl rfl rfl rfl rfl tt_279 rfl (by decide) (w_letterOf z σ (7497078) (16) (by decide) (by decide) ⟨c0, trivial⟩) ?_
  rw [show (v_letterOf (7497078) (16)) = 114 from by decide]
  refine wk_b tt_332 2 (pc' := 21) (ls' := [(5, .inl (114)), (4, .inl (16)), (2, .inr (.inl (0))), (0, .inr (.inl (7497078)))]) (st' := [.inl (114)]) (σ' := σ) rfl ?_
  refine wk_if tt_332 (tgt := 28) rfl rfl (by decide) (fun _ => ?_) (fun (h : 114 = 0) => absurd h (by decide))
  refine wk_b tt_332 12 (pc' := 8) (ls' := [(4, .inl (8)), (2, .inr (.inl ((((40 * 0) + (sg_n (114))) - 96)))), (5, .inl (114)), (0, .inr (.inl (7497078)))]) (st' := [.inl (8)]) (σ' := σ) rfl ?_
  rw [show (sg_n (114)) = 114 from by rw [sg_id (by decide)]]
  show wx z 2 332 8 [(4, .inl (8)), (2, .inr (.inl (18))), (5, .inl (114)), (0, .inr (.inl (7497078)))] [.inl (8)] σ (fun v σ' => v = some (.inr (.inl (29022))) ∧ σ' = σ)
  refine wk_if tt_332 (tgt := 48) rfl rfl (by decide) (fun (h : 8 < 0) => absurd h (by decide)) (fun _ => ?_)
  refine wk_b tt_332 2 (pc' := 14) (ls' := [(4, .inl (8)), (2, .inr (.inl (18))), (5, .inl (114)), (0, .inr (.inl (7497078)))]) (st' := [.inl (8), .inr (.inl (7497078))]) (σ' := σ) rfl ?_
  obtain ⟨c0, _⟩ : p_letterOf (7497078) (8) := ⟨by decide, trivial⟩
  refine wk_callp tt_332 rfl rfl rfl rfl rfl tt_279 rfl (by decide) (w_letterOf z σ (7497078) (8) (by decide) (by decide) ⟨c0, trivial⟩) ?_
  rw [show (v_letterOf (7497078) (8)) = 101 from by decide]
  refine wk_b tt_332 2 (pc' := 21) (ls' := [(5, .inl (101)), (4, .inl (8)), (2, .inr (.inl (18))), (0, .inr (.inl (7497078)))]) (st' := [.inl (101)]) (σ' := σ) rfl ?_
  refine wk_if tt_332 (tgt := 28) rfl rfl (by decide) (fun _ => ?_) (fun (h : 101 = 0) => absurd h (by decide))
  refine wk_b tt_332 12 (pc' := 8) (ls' := [(4, .inl (0)), (2, .inr (.inl ((((40 * 18) + (sg_n (101))) - 96)))), (5, .inl (101)), (0, .inr (.inl (7497078)))]) (st' := [.inl (0)]) (σ' := σ) rfl ?_
  rw [show (sg_n (101)) = 101 from by rw [sg_id (by decide)]]
  show wx z 2 332 8 [(4, .inl (0)), (2, .inr (.inl (725))), (5, .inl (101)), (0, .inr (.inl (7497078)))] [.inl (0)] σ (fun v σ' => v = some (.inr (.inl (29022))) ∧ σ' = σ)
  refine wk_if tt_332 (tgt := 48) rfl rfl (by decide) (fun (h : 0 < 0) => absurd h (by decide)) (fun _ => ?_)
  refine wk_b tt_332 2 (pc' := 14) (ls' := [(4, .inl (0)), (2, .inr (.inl (725))), (5, .inl (101)), (0, .inr (.inl (7497078)))]) (st' := [.inl (0), .inr (.inl (7497078))]) (σ' := σ) rfl ?_
  obtain ⟨c0, _⟩ : p_letterOf (7497078) (0) := ⟨by decide, trivial⟩
  refine wk_callp tt_332 rfl rfl rfl rfl rfl tt_279 rfl (by decide) (w_letterOf z σ (7497078) (0) (by decide) (by decide) ⟨c0, trivial⟩) ?_
  rw [show (v_letterOf (7497078) (0)) = 118 from by decide]
  refine wk_b tt_332 2 (pc' := 21) (ls' := [(5, .inl (118)), (4, .inl (0)), (2, .inr (.inl (725))), (0, .inr (.inl (7497078)))]) (st' := [.inl (118)]) (σ' := σ) rfl ?_
  refine wk_if tt_332 (tgt := 28) rfl rfl (by decide) (fun _ => ?_) (fun (h : 118 = 0) => absurd h (by decide))
  refine wk_b tt_332 12 (pc' := 8) (ls' := [(4, .inl ((-8))), (2, .inr (.inl ((((40 * 725) + (sg_n (118))) - 96)))), (5, .inl (118)), (0, .inr (.inl (7497078)))]) (st' := [.inl ((-8))]) (σ' := σ) rfl ?_
  rw [show (sg_n (118)) = 118 from by rw [sg_id (by decide)]]
  show wx z 2 332 8 [(4, .inl ((-8))), (2, .inr (.inl (29022))), (5, .inl (118)), (0, .inr (.inl (7497078)))] [.inl ((-8))] σ (fun v σ' => v = some (.inr (.inl (29022))) ∧ σ' = σ)
  refine wk_if tt_332 (tgt := 48) rfl rfl (by decide) (fun _ => ?_) (fun (h : 0 ≤ (-8)) => absurd h (by decide))
  refine wk_b tt_332 1 (pc' := 49) (ls' := [(4, .inl ((-8))), (2, .inr (.inl (29022))), (5, .inl (118)), (0, .inr (.inl (7497078)))]) (st' := [.inr (.inl (29022))]) (σ' := σ) rfl ?_
  exact wk_rL tt_332 rfl rfl ⟨rfl, rfl⟩
-- told
set_option maxHeartbeats 4000000 in
set_option maxRecDepth 8000 in
theorem w_told_6513012 (z : Value) (σ : sg_S) : wx z 2 332 0 [(0, .inr (.inl (6513012)))] [] σ (fun v σ' => v = some (.inr (.inl (4860))) ∧ σ' = σ) := by
  refine wk_b tt_332 5 (pc' := 8) (ls' := [(4, .inl (56)), (2, .inr (.inl (0))), (0, .inr (.inl (6513012)))]) (st' := [.inl (56)]) (σ' := σ) rfl ?_
  refine wk_if tt_332 (tgt := 48) rfl rfl (by decide) (fun (h : 56 < 0) => absurd h (by decide)) (fun _ => ?_)
  refine wk_b tt_332 2 (pc' := 14) (ls' := [(4, .inl (56)), (2, .inr (.inl (0))), (0, .inr (.inl (6513012)))]) (st' := [.inl (56), .inr (.inl (6513012))]) (σ' := σ) rfl ?_
  obtain ⟨c0, _⟩ : p_letterOf (6513012) (56) := ⟨by decide, trivial⟩
  refine wk_callp tt_332 rfl rfl rfl rfl rfl tt_279 rfl (by decide) (w_letterOf z σ (6513012) (56) (by decide) (by decide) ⟨c0, trivial⟩) ?_
  rw [show (v_letterOf (6513012) (56)) = 0 from by decide]
  refine wk_b tt_332 2 (pc' := 21) (ls' := [(5, .inl (0)), (4, .inl (56)), (2, .inr (.inl (0))), (0, .inr (.inl (6513012)))]) (st' := [.inl (0)]) (σ' := σ) rfl ?_
  refine wk_if tt_332 (tgt := 28) rfl rfl (by decide) (fun (h : ¬ 0 = 0) => absurd h (by decide)) (fun _ => ?_)
  refine wk_b tt_332 6 (pc' := 8) (ls' := [(4, .inl (48)), (2, .inr (.inl (0))), (5, .inl (0)), (0, .inr (.inl (6513012)))]) (st' := [.inl (48)]) (σ' := σ) rfl ?_
  refine wk_if tt_332 (tgt := 48) rfl rfl (by decide) (fun (h : 48 < 0) => absurd h (by decide)) (fun _ => ?_)
  refine wk_b tt_332 2 (pc' := 14) (ls' := [(4, .inl (48)), (2, .inr (.inl (0))), (5, .inl (0)), (0, .inr (.inl (6513012)))]) (st' := [.inl (48), .inr (.inl (6513012))]) (σ' := σ) rfl ?_
  obtain ⟨c0, _⟩ : p_letterOf (6513012) (48) := ⟨by decide, trivial⟩
  refine wk_callp tt_332 rfl rfl rfl rfl rfl tt_279 rfl (by decide) (w_letterOf z σ (6513012) (48) (by decide) (by decide) ⟨c0, trivial⟩) ?_
  rw [show (v_letterOf (6513012) (48)) = 0 from by decide]
  refine wk_b tt_332 2 (pc' := 21) (ls' := [(5, .inl (0)), (4, .inl (48)), (2, .inr (.inl (0))), (0, .inr (.inl (6513012)))]) (st' := [.inl (0)]) (σ' := σ) rfl ?_
  refine wk_if tt_332 (tgt := 28) rfl rfl (by decide) (fun (h : ¬ 0 = 0) => absurd h (by decide)) (fun _ => ?_)
  refine wk_b tt_332 6 (pc' := 8) (ls' := [(4, .inl (40)), (2, .inr (.inl (0))), (5, .inl (0)), (0, .inr (.inl (6513012)))]) (st' := [.inl (40)]) (σ' := σ) rfl ?_
  refine wk_if tt_332 (tgt := 48) rfl rfl (by decide) (fun (h : 40 < 0) => absurd h (by decide)) (fun _ => ?_)
  refine wk_b tt_332 2 (pc' := 14) (ls' := [(4, .inl (40)), (2, .inr (.inl (0))), (5, .inl (0)), (0, .inr (.inl (6513012)))]) (st' := [.inl (40), .inr (.inl (6513012))]) (σ' := σ) rfl ?_
  obtain ⟨c0, _⟩ : p_letterOf (6513012) (40) := ⟨by decide, trivial⟩
  refine wk_callp tt_332 rfl rfl rfl rfl rfl tt_279 rfl (by decide) (w_letterOf z σ (6513012) (40) (by decide) (by decide) ⟨c0, trivial⟩) ?_
  rw [show (v_letterOf (6513012) (40)) = 0 from by decide]
  refine wk_b tt_332 2 (pc' := 21) (ls' := [(5, .inl (0)), (4, .inl (40)), (2, .inr (.inl (0))), (0, .inr (.inl (6513012)))]) (st' := [.inl (0)]) (σ' := σ) rfl ?_
  refine wk_if tt_332 (tgt := 28) rfl rfl (by decide) (fun (h : ¬ 0 = 0) => absurd h (by decide)) (fun _ => ?_)
  refine wk_b tt_332 6 (pc' := 8) (ls' := [(4, .inl (32)), (2, .inr (.inl (0))), (5, .inl (0)), (0, .inr (.inl (6513012)))]) (st' := [.inl (32)]) (σ' := σ) rfl ?_
  refine wk_if tt_332 (tgt := 48) rfl rfl (by decide) (fun (h : 32 < 0) => absurd h (by decide)) (fun _ => ?_)
  refine wk_b tt_332 2 (pc' := 14) (ls' := [(4, .inl (32)), (2, .inr (.inl (0))), (5, .inl (0)), (0, .inr (.inl (6513012)))]) (st' := [.inl (32), .inr (.inl (6513012))]) (σ' := σ) rfl ?_
  obtain ⟨c0, _⟩ : p_letterOf (6513012) (32) := ⟨by decide, trivial⟩
  refine wk_callp tt_332 rfl rfl rfl rfl rfl tt_279 rfl (by decide) (w_letterOf z σ (6513012) (32) (by decide) (by decide) ⟨c0, trivial⟩) ?_
  rw [show (v_letterOf (6513012) (32)) = 0 from by decide]
  refine wk_b tt_332 2 (pc' := 21) (ls' := [(5, .inl (0)), (4, .inl (32)), (2, .inr (.inl (0))), (0, .inr (.inl (6513012)))]) (st' := [.inl (0)]) (σ' := σ) rfl ?_
  refine wk_if tt_332 (tgt := 28) rfl rfl (by decide) (fun (h : ¬ 0 = 0) => absurd h (by decide)) (fun _ => ?_)
  refine wk_b tt_332 6 (pc' := 8) (ls' := [(4, .inl (24)), (2, .inr (.inl (0))), (5, .inl (0)), (0, .inr (.inl (6513012)))]) (st' := [.inl (24)]) (σ' := σ) rfl ?_
  refine wk_if tt_332 (tgt := 48) rfl rfl (by decide) (fun (h : 24 < 0) => absurd h (by decide)) (fun _ => ?_)
  refine wk_b tt_332 2 (pc' := 14) (ls' := [(4, .inl (24)), (2, .inr (.inl (0))), (5, .inl (0)), (0, .inr (.inl (6513012)))]) (st' := [.inl (24), .inr (.inl (6513012))]) (σ' := σ) rfl ?_
  obtain ⟨c0, _⟩ : p_letterOf (6513012) (24) := ⟨by decide, trivial⟩
  refine wk_callp tt_332 rfl rfl rfl rfl rfl tt_279 rfl (by decide) (w_letterOf z σ (6513012) (24) (by decide) (by decide) ⟨c0, trivial⟩) ?_
  rw [show (v_letterOf (6513012) (24)) = 0 from by decide]
  refine wk_b tt_332 2 (pc' := 21) (ls' := [(5, .inl (0)), (4, .inl (24)), (2, .inr (.inl (0))), (0, .inr (.inl (6513012)))]) (st' := [.inl (0)]) (σ' := σ) rfl ?_
  refine wk_if tt_332 (tgt := 28) rfl rfl (by decide) (fun (h : ¬ 0 = 0) => absurd h (by decide)) (fun _ => ?_)
  refine wk_b tt_332 6 (pc' := 8) (ls' := [(4, .inl (16)), (2, .inr (.inl (0))), (5, .inl (0)), (0, .inr (.inl (6513012)))]) (st' := [.inl (16)]) (σ' := σ) rfl ?_
  refine wk_if tt_332 (tgt := 48) rfl rfl (by decide) (fun (h : 16 < 0) => absurd h (by decide)) (fun _ => ?_)
  refine wk_b tt_332 2 (pc' := 14) (ls' := [(4, .inl (16)), (2, .inr (.inl (0))), (5, .inl (0)), (0, .inr (.inl (6513012)))]) (st' := [.inl (16), .inr (.inl (6513012))]) (σ' := σ) rfl ?_
  obtain ⟨c0, _⟩ : p_letterOf (6513012) (16) := ⟨by decide, trivial⟩
  refine wk_callp tt_332 rfl rfl rfl rfl rfl tt_279 rfl (by decide) (w_letterOf z σ (6513012) (16) (by decide) (by decide) ⟨c0, trivial⟩) ?_
  rw [show (v_letterOf (6513012) (16)) = 99 from by decide]
  refine wk_b tt_332 2 (pc' := 21) (ls' := [(5, .inl (99)), (4, .inl (16)), (2, .inr (.inl (0))), (0, .inr (.inl (6513012)))]) (st' := [.inl (99)]) (σ' := σ) rfl ?_
  refine wk_if tt_332 (tgt := 28) rfl rfl (by decide) (fun _ => ?_) (fun (h : 99 = 0) => absurd h (by decide))
  refine wk_b tt_332 12 (pc' := 8) (ls' := [(4, .inl (8)), (2, .inr (.inl ((((40 * 0) + (sg_n (99))) - 96)))), (5, .inl (99)), (0, .inr (.inl (6513012)))]) (st' := [.inl (8)]) (σ' := σ) rfl ?_
  rw [show (sg_n (99)) = 99 from by rw [sg_id (by decide)]]
  show wx z 2 332 8 [(4, .inl (8)), (2, .inr (.inl (3))), (5, .inl (99)), (0, .inr (.inl (6513012)))] [.inl (8)] σ (fun v σ' => v = some (.inr (.inl (4860))) ∧ σ' = σ)
  refine wk_if tt_332 (tgt := 48) rfl rfl (by decide) (fun (h : 8 < 0) => absurd h (by decide)) (fun _ => ?_)
  refine wk_b tt_332 2 (pc' := 14) (ls' := [(4, .inl (8)), (2, .inr (.inl (3))), (5, .inl (99)), (0, .inr (.inl (6513012)))]) (st' := [.inl (8), .inr (.inl (6513012))]) (σ' := σ) rfl ?_
  obtain ⟨c0, _⟩ : p_letterOf (6513012) (8) := ⟨by decide, trivial⟩
  refine wk_callp tt_332 rfl rfl rfl rfl rfl tt_279 rfl (by decide) (w_letterOf z σ (6513012) (8) (by decide) (by decide) ⟨c0, trivial⟩) ?_
  rw [show (v_letterOf (6513012) (8)) = 97 from by decide]
  refine wk_b tt_332 2 (pc' := 21) (ls' := [(5, .inl (97)), (4, .inl (8)), (2, .inr (.inl (3))), (0, .inr (.inl (6513012)))]) (st' := [.inl (97)]) (σ' := σ) rfl ?_
  refine wk_if tt_332 (tgt := 28) rfl rfl (by decide) (fun _ => ?_) (fun (h : 97 = 0) => absurd h (by decide))
  refine wk_b tt_332 12 (pc' := 8) (ls' := [(4, .inl (0)), (2, .inr (.inl ((((40 * 3) + (sg_n (97))) - 96)))), (5, .inl (97)), (0, .inr (.inl (6513012)))]) (st' := [.inl (0)]) (σ' := σ) rfl ?_
  rw [show (sg_n (97)) = 97 from by rw [sg_id (by decide)]]
  show wx z 2 332 8 [(4, .inl (0)), (2, .inr (.inl (121))), (5, .inl (97)), (0, .inr (.inl (6513012)))] [.inl (0)] σ (fun v σ' => v = some (.inr (.inl (4860))) ∧ σ' = σ)
  refine wk_if tt_332 (tgt := 48) rfl rfl (by decide) (fun (h : 0 < 0) => absurd h (by decide)) (fun _ => ?_)
  refine wk_b tt_332 2 (pc' := 14) (ls' := [(4, .inl (0)), (2, .inr (.inl (121))), (5, .inl (97)), (0, .inr (.inl (6513012)))]) (st' := [.inl (0), .inr (.inl (6513012))]) (σ' := σ) rfl ?_
  obtain ⟨c0, _⟩ : p_letterOf (6513012) (0) := ⟨by decide, trivial⟩
  refine wk_callp tt_332 rfl rfl rfl rfl rfl tt_279 rfl (by decide) (w_letterOf z σ (6513012) (0) (by decide) (by decide) ⟨c0, trivial⟩) ?_
  rw [show (v_letterOf (6513012) (0)) = 116 from by decide]
  refine wk_b tt_332 2 (pc' := 21) (ls' := [(5, .inl (116)), (4, .inl (0)), (2, .inr (.inl (121))), (0, .inr (.inl (6513012)))]) (st' := [.inl (116)]) (σ' := σ) rfl ?_
  refine wk_if tt_332 (tgt := 28) rfl rfl (by decide) (fun _ => ?_) (fun (h : 116 = 0) => absurd h (by decide))
  refine wk_b tt_332 12 (pc' := 8) (ls' := [(4, .inl ((-8))), (2, .inr (.inl ((((40 * 121) + (sg_n (116))) - 96)))), (5, .inl (116)), (0, .inr (.inl (6513012)))]) (st' := [.inl ((-8))]) (σ' := σ) rfl ?_
  rw [show (sg_n (116)) = 116 from by rw [sg_id (by decide)]]
  show wx z 2 332 8 [(4, .inl ((-8))), (2, .inr (.inl (4860))), (5, .inl (116)), (0, .inr (.inl (6513012)))] [.inl ((-8))] σ (fun v σ' => v = some (.inr (.inl (4860))) ∧ σ' = σ)
  refine wk_if tt_332 (tgt := 48) rfl rfl (by decide) (fun _ => ?_) (fun (h : 0 ≤ (-8)) => absurd h (by decide))
  refine wk_b tt_332 1 (pc' := 49) (ls' := [(4, .inl ((-8))), (2, .inr (.inl (4860))), (5, .inl (116)), (0, .inr (.inl (6513012)))]) (st' := [.inr (.inl (4860))]) (σ' := σ) rfl ?_
  exact wk_rL tt_332 rfl rfl ⟨rfl, rfl⟩
-- told
set_option maxHeartbeats 4000000 in
set_option maxRecDepth 8000 in
theorem w_told_1718378868 (z : Value) (σ : sg_S) : wx z 2 332 0 [(0, .inr (.inl (1718378868)))] [] σ (fun v σ' => v = some (.inr (.inl (403260))) ∧ σ' = σ) := by
  refine wk_b tt_332 5 (pc' := 8) (ls' := [(4, .inl (56)), (2, .inr (.inl (0))), (0, .inr (.inl (1718378868)))]) (st' := [.inl (56)]) (σ' := σ) rfl ?_
  refine wk_if tt_332 (tgt := 48) rfl rfl (by decide) (fun (h : 56 < 0) => absurd h (by decide)) (fun _ => ?_)
  refine wk_b tt_332 2 (pc' := 14) (ls' := [(4, .inl (56)), (2, .inr (.inl (0))), (0, .inr (.inl (1718378868)))]) (st' := [.inl (56), .inr (.inl (1718378868))]) (σ' := σ) rfl ?_
  obtain ⟨c0, _⟩ : p_letterOf (1718378868) (56) := ⟨by decide, trivial⟩
  refine wk_callp tt_332 rfl rfl rfl rfl rfl tt_279 rfl (by decide) (w_letterOf z σ (1718378868) (56) (by decide) (by decide) ⟨c0, trivial⟩) ?_
  rw [show (v_letterOf (1718378868) (56)) = 0 from by decide]
  refine wk_b tt_332 2 (pc' := 21) (ls' := [(5, .inl (0)), (4, .inl (56)), (2, .inr (.inl (0))), (0, .inr (.inl (1718378868)))]) (st' := [.inl (0)]) (σ' := σ) rfl ?_
  refine wk_if tt_332 (tgt := 28) rfl rfl (by decide) (fun (h : ¬ 0 = 0) => absurd h (by decide)) (fun _ => ?_)
  refine wk_b tt_332 6 (pc' := 8) (ls' := [(4, .inl (48)), (2, .inr (.inl (0))), (5, .inl (0)), (0, .inr (.inl (1718378868)))]) (st' := [.inl (48)]) (σ' := σ) rfl ?_
  refine wk_if tt_332 (tgt := 48) rfl rfl (by decide) (fun (h : 48 < 0) => absurd h (by decide)) (fun _ => ?_)
  refine wk_b tt_332 2 (pc' := 14) (ls' := [(4, .inl (48)), (2, .inr (.inl (0))), (5, .inl (0)), (0, .inr (.inl (1718378868)))]) (st' := [.inl (48), .inr (.inl (1718378868))]) (σ' := σ) rfl ?_
  obtain ⟨c0, _⟩ : p_letterOf (1718378868) (48) := ⟨by decide, trivial⟩
  refine wk_callp tt_332 rfl rfl rfl rfl rfl tt_279 rfl (by decide) (w_letterOf z σ (1718378868) (48) (by decide) (by decide) ⟨c0, trivial⟩) ?_
  rw [show (v_letterOf (1718378868) (48)) = 0 from by decide]
  refine wk_b tt_332 2 (pc' := 21) (ls' := [(5, .inl (0)), (4, .inl (48)), (2, .inr (.inl (0))), (0, .inr (.inl (1718378868)))]) (st' := [.inl (0)]) (σ' := σ) rfl ?_
  refine wk_if tt_332 (tgt := 28) rfl rfl (by decide) (fun (h : ¬ 0 = 0) => absurd h (by decide)) (fun _ => ?_)
  refine wk_b tt_332 6 (pc' := 8) (ls' := [(4, .inl (40)), (2, .inr (.inl (0))), (5, .inl (0)), (0, .inr (.inl (1718378868)))]) (st' := [.inl (40)]) (σ' := σ) rfl ?_
  refine wk_if tt_332 (tgt := 48) rfl rfl (by decide) (fun (h : 40 < 0) => absurd h (by decide)) (fun _ => ?_)
  refine wk_b tt_332 2 (pc' := 14) (ls' := [(4, .inl (40)), (2, .inr (.inl (0))), (5, .inl (0)), (0, .inr (.inl (1718378868)))]) (st' := [.inl (40), .inr (.inl (1718378868))]) (σ' := σ) rfl ?_
  obtain ⟨c0, _⟩ : p_letterOf (1718378868) (40) := ⟨by decide, trivial⟩
  refine wk_callp tt_332 rfl rfl rfl rfl rfl tt_279 rfl (by decide) (w_letterOf z σ (1718378868) (40) (by decide) (by decide) ⟨c0, trivial⟩) ?_
  rw [show (v_letterOf (1718378868) (40)) = 0 from by decide]
  refine wk_b tt_332 2 (pc' := 21) (ls' := [(5, .inl (0)), (4, .inl (40)), (2, .inr (.inl (0))), (0, .inr (.inl (1718378868)))]) (st' := [.inl (0)]) (σ' := σ) rfl ?_
  refine wk_if tt_332 (tgt := 28) rfl rfl (by decide) (fun (h : ¬ 0 = 0) => absurd h (by decide)) (fun _ => ?_)
  refine wk_b tt_332 6 (pc' := 8) (ls' := [(4, .inl (32)), (2, .inr (.inl (0))), (5, .inl (0)), (0, .inr (.inl (1718378868)))]) (st' := [.inl (32)]) (σ' := σ) rfl ?_
  refine wk_if tt_332 (tgt := 48) rfl rfl (by decide) (fun (h : 32 < 0) => absurd h (by decide)) (fun _ => ?_)
  refine wk_b tt_332 2 (pc' := 14) (ls' := [(4, .inl (32)), (2, .inr (.inl (0))), (5, .inl (0)), (0, .inr (.inl (1718378868)))]) (st' := [.inl (32), .inr (.inl (1718378868))]) (σ' := σ) rfl ?_
  obtain ⟨c0, _⟩ : p_letterOf (1718378868) (32) := ⟨by decide, trivial⟩
  refine wk_callp tt_332 rfl rfl rfl rfl rfl tt_279 rfl (by decide) (w_letterOf z σ (1718378868) (32) (by decide) (by decide) ⟨c0, trivial⟩) ?_
  rw [show (v_letterOf (1718378868) (32)) = 0 from by decide]
  refine wk_b tt_332 2 (pc' := 21) (ls' := [(5, .inl (0)), (4, .inl (32)), (2, .inr (.inl (0))), (0, .inr (.inl (1718378868)))]) (st' := [.inl (0)]) (σ' := σ) rfl ?_
  refine wk_if tt_332 (tgt := 28) rfl rfl (by decide) (fun (h : ¬ 0 = 0) => absurd h (by decide)) (fun _ => ?_)
  refine wk_b tt_332 6 (pc' := 8) (ls' := [(4, .inl (24)), (2, .inr (.inl (0))), (5, .inl (0)), (0, .inr (.inl (1718378868)))]) (st' := [.inl (24)]) (σ' := σ) rfl ?_
  refine wk_if tt_332 (tgt := 48) rfl rfl (by decide) (fun (h : 24 < 0) => absurd h (by decide)) (fun _ => ?_)
  refine wk_b tt_332 2 (pc' := 14) (ls' := [(4, .inl (24)), (2, .inr (.inl (0))), (5, .inl (0)), (0, .inr (.inl (1718378868)))]) (st' := [.inl (24), .inr (.inl (1718378868))]) (σ' := σ) rfl ?_
  obtain ⟨c0, _⟩ : p_letterOf (1718378868) (24) := ⟨by decide, trivial⟩
  refine wk_callp tt_332 rfl rfl rfl rfl rfl tt_279 rfl (by decide) (w_letterOf z σ (1718378868) (24) (by decide) (by decide) ⟨c0, trivial⟩) ?_
  rw [show (v_letterOf (1718378868) (24)) = 102 from by decide]
  refine wk_b tt_332 2 (pc' := 21) (ls' := [(5, .inl (102)), (4, .inl (24)), (2, .inr (.inl (0))), (0, .inr (.inl (1718378868)))]) (st' := [.inl (102)]) (σ' := σ) rfl ?_
  refine wk_if tt_332 (tgt := 28) rfl rfl (by decide) (fun _ => ?_) (fun (h : 102 = 0) => absurd h (by decide))
  refine wk_b tt_332 12 (pc' := 8) (ls' := [(4, .inl (16)), (2, .inr (.inl ((((40 * 0) + (sg_n (102))) - 96)))), (5, .inl (102)), (0, .inr (.inl (1718378868)))]) (st' := [.inl (16)]) (σ' := σ) rfl ?_
  rw [show (sg_n (102)) = 102 from by rw [sg_id (by decide)]]
  show wx z 2 332 8 [(4, .inl (16)), (2, .inr (.inl (6))), (5, .inl (102)), (0, .inr (.inl (1718378868)))] [.inl (16)] σ (fun v σ' => v = some (.inr (.inl (403260))) ∧ σ' = σ)
  refine wk_if tt_332 (tgt := 48) rfl rfl (by decide) (fun (h : 16 < 0) => absurd h (by decide)) (fun _ => ?_)
  refine wk_b tt_332 2 (pc' := 14) (ls' := [(4, .inl (16)), (2, .inr (.inl (6))), (5, .inl (102)), (0, .inr (.inl (1718378868)))]) (st' := [.inl (16), .inr (.inl (1718378868))]) (σ' := σ) rfl ?_
  obtain ⟨c0, _⟩ : p_letterOf (1718378868) (16) := ⟨by decide, trivial⟩
  refine wk_callp tt_332 rfl rfl rfl rfl rfl tt_279 rfl (by decide) (w_letterOf z σ (1718378868) (16) (by decide) (by decide) ⟨c0, trivial⟩) ?_
  rw [show (v_letterOf (1718378868) (16)) = 108 from by decide]
  refine wk_b tt_332 2 (pc' := 21) (ls' := [(5, .inl (108)), (4, .inl (16)), (2, .inr (.inl (6))), (0, .inr (.inl (1718378868)))]) (st' := [.inl (108)]) (σ' := σ) rfl ?_
  refine wk_if tt_332 (tgt := 28) rfl rfl (by decide) (fun _ => ?_) (fun (h : 108 = 0) => absurd h (by decide))
  refine wk_b tt_332 12 (pc' := 8) (ls' := [(4, .inl (8)), (2, .inr (.inl ((((40 * 6) + (sg_n (108))) - 96)))), (5, .inl (108)), (0, .inr (.inl (1718378868)))]) (st' := [.inl (8)]) (σ' := σ) rfl ?_
  rw [show (sg_n (108)) = 108 from by rw [sg_id (by decide)]]
  show wx z 2 332 8 [(4, .inl (8)), (2, .inr (.inl (252))), (5, .inl (108)), (0, .inr (.inl (1718378868)))] [.inl (8)] σ (fun v σ' => v = some (.inr (.inl (403260))) ∧ σ' = σ)
  refine wk_if tt_332 (tgt := 48) rfl rfl (by decide) (fun (h : 8 < 0) => absurd h (by decide)) (fun _ => ?_)
  refine wk_b tt_332 2 (pc' := 14) (ls' := [(4, .inl (8)), (2, .inr (.inl (252))), (5, .inl (108)), (0, .inr (.inl (1718378868)))]) (st' := [.inl (8), .inr (.inl (1718378868))]) (σ' := σ) rfl ?_
  obtain ⟨c0, _⟩ : p_letterOf (1718378868) (8) := ⟨by decide, trivial⟩
  refine wk_callp tt_332 rfl rfl rfl rfl rfl tt_279 rfl (by decide) (w_letterOf z σ (1718378868) (8) (by decide) (by decide) ⟨c0, trivial⟩) ?_
  rw [show (v_letterOf (1718378868) (8)) = 97 from by decide]
  refine wk_b tt_332 2 (pc' := 21) (ls' := [(5, .inl (97)), (4, .inl (8)), (2, .inr (.inl (252))), (0, .inr (.inl (1718378868)))]) (st' := [.inl (97)]) (σ' := σ) rfl ?_
  refine wk_if tt_332 (tgt := 28) rfl rfl (by decide) (fun _ => ?_) (fun (h : 97 = 0) => absurd h (by decide))
  refine wk_b tt_332 12 (pc' := 8) (ls' := [(4, .inl (0)), (2, .inr (.inl ((((40 * 252) + (sg_n (97))) - 96)))), (5, .inl (97)), (0, .inr (.inl (1718378868)))]) (st' := [.inl (0)]) (σ' := σ) rfl ?_
  rw [show (sg_n (97)) = 97 from by rw [sg_id (by decide)]]
  show wx z 2 332 8 [(4, .inl (0)), (2, .inr (.inl (10081))), (5, .inl (97)), (0, .inr (.inl (1718378868)))] [.inl (0)] σ (fun v σ' => v = some (.inr (.inl (403260))) ∧ σ' = σ)
  refine wk_if tt_332 (tgt := 48) rfl rfl (by decide) (fun (h : 0 < 0) => absurd h (by decide)) (fun _ => ?_)
  refine wk_b tt_332 2 (pc' := 14) (ls' := [(4, .inl (0)), (2, .inr (.inl (10081))), (5, .inl (97)), (0, .inr (.inl (1718378868)))]) (st' := [.inl (0), .inr (.inl (1718378868))]) (σ' := σ) rfl ?_
  obtain ⟨c0, _⟩ : p_letterOf (1718378868) (0) := ⟨by decide, trivial⟩
  refine wk_callp tt_332 rfl rfl rfl rfl rfl tt_279 rfl (by decide) (w_letterOf z σ (1718378868) (0) (by decide) (by decide) ⟨c0, trivial⟩) ?_
  rw [show (v_letterOf (1718378868) (0)) = 116 from by decide]
  refine wk_b tt_332 2 (pc' := 21) (ls' := [(5, .inl (116)), (4, .inl (0)), (2, .inr (.inl (10081))), (0, .inr (.inl (1718378868)))]) (st' := [.inl (116)]) (σ' := σ) rfl ?_
  refine wk_if tt_332 (tgt := 28) rfl rfl (by decide) (fun _ => ?_) (fun (h : 116 = 0) => absurd h (by decide))
  refine wk_b tt_332 12 (pc' := 8) (ls' := [(4, .inl ((-8))), (2, .inr (.inl ((((40 * 10081) + (sg_n (116))) - 96)))), (5, .inl (116)), (0, .inr (.inl (1718378868)))]) (st' := [.inl ((-8))]) (σ' := σ) rfl ?_
  rw [show (sg_n (116)) = 116 from by rw [sg_id (by decide)]]
  show wx z 2 332 8 [(4, .inl ((-8))), (2, .inr (.inl (403260))), (5, .inl (116)), (0, .inr (.inl (1718378868)))] [.inl ((-8))] σ (fun v σ' => v = some (.inr (.inl (403260))) ∧ σ' = σ)
  refine wk_if tt_332 (tgt := 48) rfl rfl (by decide) (fun _ => ?_) (fun (h : 0 ≤ (-8)) => absurd h (by decide))
  refine wk_b tt_332 1 (pc' := 49) (ls' := [(4, .inl ((-8))), (2, .inr (.inl (403260))), (5, .inl (116)), (0, .inr (.inl (1718378868)))]) (st' := [.inr (.inl (403260))]) (σ' := σ) rfl ?_
  exact wk_rL tt_332 rfl rfl ⟨rfl, rfl⟩
