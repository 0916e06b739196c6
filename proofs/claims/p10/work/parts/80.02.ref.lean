/-! Conditions of the reference's methods, by program (2). -/
-- told
set_option maxHeartbeats 4000000 in
set_option maxRecDepth 8000 in
theorem w_told_1885430635 (z : Value) (σ : sg_S) : wx z 2 332 0 [(0, .inr (.inl (1885430635)))] [] σ (fun v σ' => v = some (.inr (.inl (1025731))) ∧ σ' = σ) := by
  refine wk_b tt_332 5 (pc' := 8) (ls' := [(4, .inl (56)), (2, .inr (.inl (0))), (0, .inr (.inl (1885430635)))]) (st' := [.inl (56)]) (σ' := σ) rfl ?_
  refine wk_if tt_332 (tgt := 48) rfl rfl (by decide) (fun (h : 56 < 0) => absurd h (by decide)) (fun _ => ?_)
  refine wk_b tt_332 2 (pc' := 14) (ls' := [(4, .inl (56)), (2, .inr (.inl (0))), (0, .inr (.inl (1885430635)))]) (st' := [.inl (56), .inr (.inl (1885430635))]) (σ' := σ) rfl ?_
  obtain ⟨c0, _⟩ : p_letterOf (1885430635) (56) := ⟨by decide, trivial⟩
  refine wk_callp tt_332 rfl rfl rfl rfl rfl tt_279 rfl (by decide) (w_letterOf z σ (1885430635) (56) (by decide) (by decide) ⟨c0, trivial⟩) ?_
  rw [show (v_letterOf (1885430635) (56)) = 0 from by decide]
  refine wk_b tt_332 2 (pc' := 21) (ls' := [(5, .inl (0)), (4, .inl (56)), (2, .inr (.inl (0))), (0, .inr (.inl (1885430635)))]) (st' := [.inl (0)]) (σ' := σ) rfl ?_
  refine wk_if tt_332 (tgt := 28) rfl rfl (by decide) (fun (h : ¬ 0 = 0) => absurd h (by decide)) (fun _ => ?_)
  refine wk_b tt_332 6 (pc' := 8) (ls' := [(4, .inl (48)), (2, .inr (.inl (0))), (5, .inl (0)), (0, .inr (.inl (1885430635)))]) (st' := [.inl (48)]) (σ' := σ) rfl ?_
  refine wk_if tt_332 (tgt := 48) rfl rfl (by decide) (fun (h : 48 < 0) => absurd h (by decide)) (fun _ => ?_)
  refine wk_b tt_332 2 (pc' := 14) (ls' := [(4, .inl (48)), (2, .inr (.inl (0))), (5, .inl (0)), (0, .inr (.inl (1885430635)))]) (st' := [.inl (48), .inr (.inl (1885430635))]) (σ' := σ) rfl ?_
  obtain ⟨c0, _⟩ : p_letterOf (1885430635) (48) := ⟨by decide, trivial⟩
  refine wk_callp tt_332 rfl rfl rfl rfl rfl tt_279 rfl (by decide) (w_letterOf z σ (1885430635) (48) (by decide) (by decide) ⟨c0, trivial⟩) ?_
  rw [show (v_letterOf (1885430635) (48)) = 0 from by decide]
  refine wk_b tt_332 2 (pc' := 21) (ls' := [(5, .inl (0)), (4, .inl (48)), (2, .inr (.inl (0))), (0, .inr (.inl (1885430635)))]) (st' := [.inl (0)]) (σ' := σ) rfl ?_
  refine wk_if tt_332 (tgt := 28) rfl rfl (by decide) (fun (h : ¬ 0 = 0) => absurd h (by decide)) (fun _ => ?_)
  refine wk_b tt_332 6 (pc' := 8) (ls' := [(4, .inl (40)), (2, .inr (.inl (0))), (5, .inl (0)), (0, .inr (.inl (1885430635)))]) (st' := [.inl (40)]) (σ' := σ) rfl ?_
  refine wk_if tt_332 (tgt := 48) rfl rfl (by decide) (fun (h : 40 < 0) => absurd h (by decide)) (fun _ => ?_)
  refine wk_b tt_332 2 (pc' := 14) (ls' := [(4, .inl (40)), (2, .inr (.inl (0))), (5, .inl (0)), (0, .inr (.inl (1885430635)))]) (st' := [.inl (40), .inr (.inl (1885430635))]) (σ' := σ) rfl ?_
  obtain ⟨c0, _⟩ : p_letterOf (1885430635) (40) := ⟨by decide, trivial⟩
  refine wk_callp tt_332 rfl rfl rfl rfl rfl tt_279 rfl (by decide) (w_letterOf z σ (1885430635) (40) (by decide) (by decide) ⟨c0, trivial⟩) ?_
  rw [show (v_letterOf (1885430635) (40)) = 0 from by decide]
  refine wk_b tt_332 2 (pc' := 21) (ls' := [(5, .inl (0)), (4, .inl (40)), (2, .inr (.inl (0))), (0, .inr (.inl (1885430635)))]) (st' := [.inl (0)]) (σ' := σ) rfl ?_
  refine wk_if tt_332 (tgt := 28) rfl rfl (by decide) (fun (h : ¬ 0 = 0) => absurd h (by decide)) (fun _ => ?_)
  refine wk_b tt_332 6 (pc' := 8) (ls' := [(4, .inl (32)), (2, .inr (.inl (0))), (5, .inl (0)), (0, .inr (.inl (1885430635)))]) (st' := [.inl (32)]) (σ' := σ) rfl ?_
  refine wk_if tt_332 (tgt := 48) rfl rfl (by decide) (fun (h : 32 < 0) => absurd h (by decide)) (fun _ => ?_)
  refine wk_b tt_332 2 (pc' := 14) (ls' := [(4, .inl (32)), (2, .inr (.inl (0))), (5, .inl (0)), (0, .inr (.inl (1885430635)))]) (st' := [.inl (32), .inr (.inl (1885430635))]) (σ' := σ) rfl ?_
  obtain ⟨c0, _⟩ : p_letterOf (1885430635) (32) := ⟨by decide, trivial⟩
  refine wk_callp tt_332 rfl rfl rfl rfl rfl tt_279 rfl (by decide) (w_letterOf z σ (1885430635) (32) (by decide) (by decide) ⟨c0, trivial⟩) ?_
  rw [show (v_letterOf (1885430635) (32)) = 0 from by decide]
  refine wk_b tt_332 2 (pc' := 21) (ls' := [(5, .inl (0)), (4, .inl (32)), (2, .inr (.inl (0))), (0, .inr (.inl (1885430635)))]) (st' := [.inl (0)]) (σ' := σ) rfl ?_
  refine wk_if tt_332 (tgt := 28) rfl rfl (by decide) (fun (h : ¬ 0 = 0) => absurd h (by decide)) (fun _ => ?_)
  refine wk_b tt_332 6 (pc' := 8) (ls' := [(4, .inl (24)), (2, .inr (.inl (0))), (5, .inl (0)), (0, .inr (.inl (1885430635)))]) (st' := [.inl (24)]) (σ' := σ) rfl ?_
  refine wk_if tt_332 (tgt := 48) rfl rfl (by decide) (fun (h : 24 < 0) => absurd h (by decide)) (fun _ => ?_)
  refine wk_b tt_332 2 (pc' := 14) (ls' := [(4, .inl (24)), (2, .inr (.inl (0))), (5, .inl (0)), (0, .inr (.inl (1885430635)))]) (st' := [.inl (24), .inr (.inl (1885430635))]) (σ' := σ) rfl ?_
  obtain ⟨c0, _⟩ : p_letterOf (1885430635) (24) := ⟨by decide, trivial⟩
  refine wk_callp tt_332 rfl rfl rfl rfl rfl tt_279 rfl (by decide) (w_letterOf z σ (1885430635) (24) (by decide) (by decide) ⟨c0, trivial⟩) ?_
  rw [show (v_letterOf (1885430635) (24)) = 112 from by decide]
  refine wk_b tt_332 2 (pc' := 21) (ls' := [(5, .inl (112)), (4, .inl (24)), (2, .inr (.inl (0))), (0, .inr (.inl (1885430635)))]) (st' := [.inl (112)]) (σ' := σ) rfl ?_
  refine wk_if tt_332 (tgt := 28) rfl rfl (by decide) (fun _ => ?_) (fun (h : 112 = 0) => absurd h (by decide))
  refine wk_b tt_332 12 (pc' := 8) (ls' := [(4, .inl (16)), (2, .inr (.inl ((((40 * 0) + (sg_n (112))) - 96)))), (5, .inl (112)), (0, .inr (.inl (1885430635)))]) (st' := [.inl (16)]) (σ' := σ) rfl ?_
  rw [show (sg_n (112)) = 112 from by rw [sg_id (by decide)]]
  show wx z 2 332 8 [(4, .inl (16)), (2, .inr (.inl (16))), (5, .inl (112)), (0, .inr (.inl (1885430635)))] [.inl (16)] σ (fun v σ' => v = some (.inr (.inl (1025731))) ∧ σ' = σ)
  refine wk_if tt_332 (tgt := 48) rfl rfl (by decide) (fun (h : 16 < 0) => absurd h (by decide)) (fun _ => ?_)
  refine wk_b tt_332 2 (pc' := 14) (ls' := [(4, .inl (16)), (2, .inr (.inl (16))), (5, .inl (112)), (0, .inr (.inl (1885430635)))]) (st' := [.inl (16), .inr (.inl (1885430635))]) (σ' := σ) rfl ?_
  obtain ⟨c0, _⟩ : p_letterOf (1885430635) (16) := ⟨by decide, trivial⟩
  refine wk_callp tt_332 rfl rfl rfl rfl rfl tt_279 rfl (by decide) (w_letterOf z σ (1885430635) (16) (by decide) (by decide) ⟨c0, trivial⟩) ?_
  rw [show (v_letterOf (1885430635) (16)) = 97 from by decide]
  refine wk_b tt_332 2 (pc' := 21) (ls' := [(5, .inl (97)), (4, .inl (16)), (2, .inr (.inl (16))), (0, .inr (.inl (1885430635)))]) (st' := [.inl (97)]) (σ' := σ) rfl ?_
  refine wk_if tt_332 (tgt := 28) rfl rfl (by decide) (fun _ => ?_) (fun (h : 97 = 0) => absurd h (by decide))
  refine wk_b tt_332 12 (pc' := 8) (ls' := [(4, .inl (8)), (2, .inr (.inl ((((40 * 16) + (sg_n (97))) - 96)))), (5, .inl (97)), (0, .inr (.inl (1885430635)))]) (st' := [.inl (8)]) (σ' := σ) rfl ?_
  rw [show (sg_n (97)) = 97 from by rw [sg_id (by decide)]]
  show wx z 2 332 8 [(4, .inl (8)), (2, .inr (.inl (641))), (5, .inl (97)), (0, .inr (.inl (1885430635)))] [.inl (8)] σ (fun v σ' => v = some (.inr (.inl (1025731))) ∧ σ' = σ)
  refine wk_if tt_332 (tgt := 48) rfl rfl (by decide) (fun (h : 8 < 0) => absurd h (by decide)) (fun _ => ?_)
  refine wk_b tt_332 2 (pc' := 14) (ls' := [(4, .inl (8)), (2, .inr (.inl (641))), (5, .inl (97)), (0, .inr (.inl (1885430635)))]) (st' := [.inl (8), .inr (.inl (1885430635))]) (σ' := σ) rfl ?_
  obtain ⟨c0, _⟩ : p_letterOf (1885430635) (8) := ⟨by decide, trivial⟩
  refine wk_callp tt_332 rfl rfl rfl rfl rfl tt_279 rfl (by decide) (w_letterOf z σ (1885430635) (8) (by decide) (by decide) ⟨c0, trivial⟩) ?_
  rw [show (v_letterOf (1885430635) (8)) = 99 from by decide]
  refine wk_b tt_332 2 (pc' := 21) (ls' := [(5, .inl (99)), (4, .inl (8)), (2, .inr (.inl (641))), (0, .inr (.inl (1885430635)))]) (st' := [.inl (99)]) (σ' := σ) rfl ?_
  refine wk_if tt_332 (tgt := 28) rfl rfl (by decide) (fun _ => ?_) (fun (h : 99 = 0) => absurd h (by decide))
  refine wk_b tt_332 12 (pc' := 8) (ls' := [(4, .inl (0)), (2, .inr (.inl ((((40 * 641) + (sg_n (99))) - 96)))), (5, .inl (99)), (0, .inr (.inl (1885430635)))]) (st' := [.inl (0)]) (σ' := σ) rfl ?_
  rw [show (sg_n (99)) = 99 from by rw [sg_id (by decide)]]
  show wx z 2 332 8 [(4, .inl (0)), (2, .inr (.inl (25643))), (5, .inl (99)), (0, .inr (.inl (1885430635)))] [.inl (0)] σ (fun v σ' => v = some (.inr (.inl (1025731))) ∧ σ' = σ)
  refine wk_if tt_332 (tgt := 48) rfl rfl (by decide) (fun (h : 0 < 0) => absurd h (by decide)) (fun _ => ?_)
  refine wk_b tt_332 2 (pc' := 14) (ls' := [(4, .inl (0)), (2, .inr (.inl (25643))), (5, .inl (99)), (0, .inr (.inl (1885430635)))]) (st' := [.inl (0), .inr (.inl (1885430635))]) (σ' := σ) rfl ?_
  obtain ⟨c0, _⟩ : p_letterOf (1885430635) (0) := ⟨by decide, trivial⟩
  refine wk_callp tt_332 rfl rfl rfl rfl rfl tt_279 rfl (by decide) (w_letterOf z σ (1885430635) (0) (by decide) (by decide) ⟨c0, trivial⟩) ?_
  rw [show (v_letterOf (1885430635) (0)) = 107 from by decide]
  refine wk_b tt_332 2 (pc' := 21) (ls' := [(5, .inl (107)), (4, .inl (0)), (2, .inr (.inl (25643))), (0, .inr (.inl (1885430635)))]) (st' := [.inl (107)]) (σ' := σ) rfl ?_
  refine wk_if tt_332 (tgt := 28) rfl rfl (by decide) (fun _ => ?_) (fun (h : 107 = 0) => absurd h (by decide))
  refine wk_b tt_332 12 (pc' := 8) (ls' := [(4, .inl ((-8))), (2, .inr (.inl ((((40 * 25643) + (sg_n (107))) - 96)))), (5, .inl (107)), (0, .inr (.inl (1885430635)))]) (st' := [.inl ((-8))]) (σ' := σ) rfl ?_
  rw [show (sg_n (107)) = 107 from by rw [sg_id (by decide)]]
  show wx z 2 332 8 [(4, .inl ((-8))), (2, .inr (.inl (1025731))), (5, .inl (107)), (0, .inr (.inl (1885430635)))] [.inl ((-8))] σ (fun v σ' => v = some (.inr (.inl (1025731))) ∧ σ' = σ)
  refine wk_if tt_332 (tgt := 48) rfl rfl (by decide) (fun _ => ?_) (fun (h : 0 ≤ (-8)) => absurd h (by decide))
  refine wk_b tt_332 1 (pc' := 49) (ls' := [(4, .inl ((-8))), (2, .inr (.inl (1025731))), (5, .inl (107)), (0, .inr (.inl (1885430635)))]) (st' := [.inr (.inl (1025731))]) (σ' := σ) rfl ?_
  exact wk_rL tt_332 rfl rfl ⟨rfl, rfl⟩
-- told
set_option maxHeartbeats 4000000 in
set_option maxRecDepth 8000 in
theorem w_told_1885696621 (z : Value) (σ : sg_S) : wx z 2 332 0 [(0, .inr (.inl (1885696621)))] [] σ (fun v σ' => v = some (.inr (.inl (1032733))) ∧ σ' = σ) := by
  refine wk_b tt_332 5 (pc' := 8) (ls' := [(4, .inl (56)), (2, .inr (.inl (0))), (0, .inr (.inl (1885696621)))]) (st' := [.inl (56)]) (σ' := σ) rfl ?_
  refine wk_if tt_332 (tgt := 48) rfl rfl (by decide) (fun (h : 56 < 0) => absurd h (by decide)) (fun _ => ?_)
  refine wk_b tt_332 2 (pc' := 14) (ls' := [(4, .inl (56)), (2, .inr (.inl (0))), (0, .inr (.inl (1885696621)))]) (st' := [.inl (56), .inr (.inl (1885696621))]) (σ' := σ) rfl ?_
  obtain ⟨c0, _⟩ : p_letterOf (1885696621) (56) := ⟨by decide, trivial⟩
  refine wk_callp tt_332 rfl rfl rfl rfl rfl tt_279 rfl (by decide) (w_letterOf z σ (1885696621) (56) (by decide) (by decide) ⟨c0, trivial⟩) ?_
  rw [show (v_letterOf (1885696621) (56)) = 0 from by decide]
  refine wk_b tt_332 2 (pc' := 21) (ls' := [(5, .inl (0)), (4, .inl (56)), (2, .inr (.inl (0))), (0, .inr (.inl (1885696621)))]) (st' := [.inl (0)]) (σ' := σ) rfl ?_
  refine wk_if tt_332 (tgt := 28) rfl rfl (by decide) (fun (h : ¬ 0 = 0) => absurd h (by decide)) (fun _ => ?_)
  refine wk_b tt_332 6 (pc' := 8) (ls' := [(4, .inl (48)), (2, .inr (.inl (0))), (5, .inl (0)), (0, .inr (.inl (1885696621)))]) (st' := [.inl (48)]) (σ' := σ) rfl ?_
  refine wk_if tt_332 (tgt := 48) rfl rfl (by decide) (fun (h : 48 < 0) => absurd h (by decide)) (fun _ => ?_)
  refine wk_b tt_332 2 (pc' := 14) (ls' := [(4, .inl (48)), (2, .inr (.inl (0))), (5, .inl (0)), (0, .inr (.inl (1885696621)))]) (st' := [.inl (48), .inr (.inl (1885696621))]) (σ' := σ) rfl ?_
  obtain ⟨c0, _⟩ : p_letterOf (1885696621) (48) := ⟨by decide, trivial⟩
  refine wk_callp tt_332 rfl rfl rfl rfl rfl tt_279 rfl (by decide) (w_letterOf z σ (1885696621) (48) (by decide) (by decide) ⟨c0, trivial⟩) ?_
  rw [show (v_letterOf (1885696621) (48)) = 0 from by decide]
  refine wk_b tt_332 2 (pc' := 21) (ls' := [(5, .inl (0)), (4, .inl (48)), (2, .inr (.inl (0))), (0, .inr (.inl (1885696621)))]) (st' := [.inl (0)]) (σ' := σ) rfl ?_
  refine wk_if tt_332 (tgt := 28) rfl rfl (by decide) (fun (h : ¬ 0 = 0) => absurd h (by decide)) (fun _ => ?_)
  refine wk_b tt_332 6 (pc' := 8) (ls' := [(4, .inl (40)), (2, .inr (.inl (0))), (5, .inl (0)), (0, .inr (.inl (1885696621)))]) (st' := [.inl (40)]) (σ' := σ) rfl ?_
  refine wk_if tt_332 (tgt := 48) rfl rfl (by decide) (fun (h : 40 < 0) => absurd h (by decide)) (fun _ => ?_)
  refine wk_b tt_332 2 (pc' := 14) (ls' := [(4, .inl (40)), (2, .inr (.inl (0))), (5, .inl (0)), (0, .inr (.inl (1885696621)))]) (st' := [.inl (40), .inr (.inl (1885696621))]) (σ' := σ) rfl ?_
  obtain ⟨c0, _⟩ : p_letterOf (1885696621) (40) := ⟨by decide, trivial⟩
  refine wk_callp tt_332 rfl rfl rfl rfl rfl tt_279 rfl (by decide) (w_letterOf z σ (1885696621) (40) (by decide) (by decide) ⟨c0, trivial⟩) ?_
  rw [show (v_letterOf (1885696621) (40)) = 0 from by decide]
  refine wk_b tt_332 2 (pc' := 21) (ls' := [(5, .inl (0)), (4, .inl (40)), (2, .inr (.inl (0))), (0, .inr (.inl (1885696621)))]) (st' := [.inl (0)]) (σ' := σ) rfl ?_
  refine wk_if tt_332 (tgt := 28) rfl rfl (by decide) (fun (h : ¬ 0 = 0) => absurd h (by decide)) (fun _ => ?_)
  refine wk_b tt_332 6 (pc' := 8) (ls' := [(4, .inl (32)), (2, .inr (.inl (0))), (5, .inl (0)), (0, .inr (.inl (1885696621)))]) (st' := [.inl (32)]) (σ' := σ) rfl ?_
  refine wk_if tt_332 (tgt := 48) rfl rfl (by decide) (fun (h : 32 < 0) => absurd h (by decide)) (fun _ => ?_)
  refine wk_b tt_332 2 (pc' := 14) (ls' := [(4, .inl (32)), (2, .inr (.inl (0))), (5, .inl (0)), (0, .inr (.inl (1885696621)))]) (st' := [.inl (32), .inr (.inl (1885696621))]) (σ' := σ) rfl ?_
  obtain ⟨c0, _⟩ : p_letterOf (1885696621) (32) := ⟨by decide, trivial⟩
  refine wk_callp tt_332 rfl rfl rfl rfl rfl tt_279 rfl (by decide) (w_letterOf z σ (1885696621) (32) (by decide) (by decide) ⟨c0, trivial⟩) ?_
  rw [show (v_letterOf (1885696621) (32)) = 0 from by decide]
  refine wk_b tt_332 2 (pc' := 21) (ls' := [(5, .inl (0)), (4, .inl (32)), (2, .inr (.inl (0))), (0, .inr (.inl (1885696621)))]) (st' := [.inl (0)]) (σ' := σ) rfl ?_
  refine wk_if tt_332 (tgt := 28) rfl rfl (by decide) (fun (h : ¬ 0 = 0) => absurd h (by decide)) (fun _ => ?_)
  refine wk_b tt_332 6 (pc' := 8) (ls' := [(4, .inl (24)), (2, .inr (.inl (0))), (5, .inl (0)), (0, .inr (.inl (1885696621)))]) (st' := [.inl (24)]) (σ' := σ) rfl ?_
  refine wk_if tt_332 (tgt := 48) rfl rfl (by decide) (fun (h : 24 < 0) => absurd h (by decide)) (fun _ => ?_)
  refine wk_b tt_332 2 (pc' := 14) (ls' := [(4, .inl (24)), (2, .inr (.inl (0))), (5, .inl (0)), (0, .inr (.inl (1885696621)))]) (st' := [.inl (24), .inr (.inl (1885696621))]) (σ' := σ) rfl ?_
  obtain ⟨c0, _⟩ : p_letterOf (1885696621) (24) := ⟨by decide, trivial⟩
  refine wk_callp tt_332 rfl rfl rfl rfl rfl tt_279 rfl (by decide) (w_letterOf z σ (1885696621) (24) (by decide) (by decide) ⟨c0, trivial⟩) ?_
  rw [show (v_letterOf (1885696621) (24)) = 112 from by decide]
  refine wk_b tt_332 2 (pc' := 21) (ls' := [(5, .inl (112)), (4, .inl (24)), (2, .inr (.inl (0))), (0, .inr (.inl (1885696621)))]) (st' := [.inl (112)]) (σ' := σ) rfl ?_
  refine wk_if tt_332 (tgt := 28) rfl rfl (by decide) (fun _ => ?_) (fun (h : 112 = 0) => absurd h (by decide))
  refine wk_b tt_332 12 (pc' := 8) (ls' := [(4, .inl (16)), (2, .inr (.inl ((((40 * 0) + (sg_n (112))) - 96)))), (5, .inl (112)), (0, .inr (.inl (1885696621)))]) (st' := [.inl (16)]) (σ' := σ) rfl ?_
  rw [show (sg_n (112)) = 112 from by rw [sg_id (by decide)]]
  show wx z 2 332 8 [(4, .inl (16)), (2, .inr (.inl (16))), (5, .inl (112)), (0, .inr (.inl (1885696621)))] [.inl (16)] σ (fun v σ' => v = some (.inr (.inl (1032733))) ∧ σ' = σ)
  refine wk_if tt_332 (tgt := 48) rfl rfl (by decide) (fun (h : 16 < 0) => absurd h (by decide)) (fun _ => ?_)
  refine wk_b tt_332 2 (pc' := 14) (ls' := [(4, .inl (16)), (2, .inr (.inl (16))), (5, .inl (112)), (0, .inr (.inl (1885696621)))]) (st' := [.inl (16), .inr (.inl (1885696621))]) (σ' := σ) rfl ?_
  obtain ⟨c0, _⟩ : p_letterOf (1885696621) (16) := ⟨by decide, trivial⟩
  refine wk_callp tt_332 rfl rfl rfl rfl rfl tt_279 rfl (by decide) (w_letterOf z σ (1885696621) (16) (by decide) (by decide) ⟨c0, trivial⟩) ?_
  rw [show (v_letterOf (1885696621) (16)) = 101 from by decide]
  refine wk_b tt_332 2 (pc' := 21) (ls' := [(5, .inl (101)), (4, .inl (16)), (2, .inr (.inl (16))), (0, .inr (.inl (1885696621)))]) (st' := [.inl (101)]) (σ' := σ) rfl ?_
  refine wk_if tt_332 (tgt := 28) rfl rfl (by decide) (fun _ => ?_) (fun (h : 101 = 0) => absurd h (by decide))
  refine wk_b tt_332 12 (pc' := 8) (ls' := [(4, .inl (8)), (2, .inr (.inl ((((40 * 16) + (sg_n (101))) - 96)))), (5, .inl (101)), (0, .inr (.inl (1885696621)))]) (st' := [.inl (8)]) (σ' := σ) rfl ?_
  rw [show (sg_n (101)) = 101 from by rw [sg_id (by decide)]]
  show wx z 2 332 8 [(4, .inl (8)), (2, .inr (.inl (645))), (5, .inl (101)), (0, .inr (.inl (1885696621)))] [.inl (8)] σ (fun v σ' => v = some (.inr (.inl (1032733))) ∧ σ' = σ)
  refine wk_if tt_332 (tgt := 48) rfl rfl (by decide) (fun (h : 8 < 0) => absurd h (by decide)) (fun _ => ?_)
  refine wk_b tt_332 2 (pc' := 14) (ls' := [(4, .inl (8)), (2, .inr (.inl (645))), (5, .inl (101)), (0, .inr (.inl (1885696621)))]) (st' := [.inl (8), .inr (.inl (1885696621))]) (σ' := σ) rfl ?_
  obtain ⟨c0, _⟩ : p_letterOf (1885696621) (8) := ⟨by decide, trivial⟩
  refine wk_callp tt_332 rfl rfl rfl rfl rfl tt_279 rfl (by decide) (w_letterOf z σ (1885696621) (8) (by decide) (by decide) ⟨c0, trivial⟩) ?_
  rw [show (v_letterOf (1885696621) (8)) = 114 from by decide]
  refine wk_b tt_332 2 (pc' := 21) (ls' := [(5, .inl (114)), (4, .inl (8)), (2, .inr (.inl (645))), (0, .inr (.inl (1885696621)))]) (st' := [.inl (114)]) (σ' := σ) rfl ?_
  refine wk_if tt_332 (tgt := 28) rfl rfl (by decide) (fun _ => ?_) (fun (h : 114 = 0) => absurd h (by decide))
  refine wk_b tt_332 12 (pc' := 8) (ls' := [(4, .inl (0)), (2, .inr (.inl ((((40 * 645) + (sg_n (114))) - 96)))), (5, .inl (114)), (0, .inr (.inl (1885696621)))]) (st' := [.inl (0)]) (σ' := σ) rfl ?_
  rw [show (sg_n (114)) = 114 from by rw [sg_id (by decide)]]
  show wx z 2 332 8 [(4, .inl (0)), (2, .inr (.inl (25818))), (5, .inl (114)), (0, .inr (.inl (1885696621)))] [.inl (0)] σ (fun v σ' => v = some (.inr (.inl (1032733))) ∧ σ' = σ)
  refine wk_if tt_332 (tgt := 48) rfl rfl (by decide) (fun (h : 0 < 0) => absurd h (by decide)) (fun _ => ?_)
  refine wk_b tt_332 2 (pc' := 14) (ls' := [(4, .inl (0)), (2, .inr (.inl (25818))), (5, .inl (114)), (0, .inr (.inl (1885696621)))]) (st' := [.inl (0), .inr (.inl (1885696621))]) (σ' := σ) rfl ?_
  obtain ⟨c0, _⟩ : p_letterOf (1885696621) (0) := ⟨by decide, trivial⟩
  refine wk_callp tt_332 rfl rfl rfl rfl rfl tt_279 rfl (by decide) (w_letterOf z σ (1885696621) (0) (by decide) (by decide) ⟨c0, trivial⟩) ?_
  rw [show (v_letterOf (1885696621) (0)) = 109 from by decide]
  refine wk_b tt_332 2 (pc' := 21) (ls' := [(5, .inl (109)), (4, .inl (0)), (2, .inr (.inl (25818))), (0, .inr (.inl (1885696621)))]) (st' := [.inl (109)]) (σ' := σ) rfl ?_
  refine wk_if tt_332 (tgt := 28) rfl rfl (by decide) (fun _ => ?_) (fun (h : 109 = 0) => absurd h (by decide))
  refine wk_b tt_332 12 (pc' := 8) (ls' := [(4, .inl ((-8))), (2, .inr (.inl ((((40 * 25818) + (sg_n (109))) - 96)))), (5, .inl (109)), (0, .inr (.inl (1885696621)))]) (st' := [.inl ((-8))]) (σ' := σ) rfl ?_
  rw [show (sg_n (109)) = 109 from by rw [sg_id (by decide)]]
  show wx z 2 332 8 [(4, .inl ((-8))), (2, .inr (.inl (1032733))), (5, .inl (109)), (0, .inr (.inl (1885696621)))] [.inl ((-8))] σ (fun v σ' => v = some (.inr (.inl (1032733))) ∧ σ' = σ)
  refine wk_if tt_332 (tgt := 48) rfl rfl (by decide) (fun _ => ?_) (fun (h : 0 ≤ (-8)) => absurd h (by decide))
  refine wk_b tt_332 1 (pc' := 49) (ls' := [(4, .inl ((-8))), (2, .inr (.inl (1032733))), (5, .inl (109)), (0, .inr (.inl (1885696621)))]) (st' := [.inr (.inl (1032733))]) (σ' := σ) rfl ?_
  exact wk_rL tt_332 rfl rfl ⟨rfl, rfl⟩
-- told
set_option maxHeartbeats 4000000 in
set_option maxRecDepth 8000 in
theorem w_told_1885434484 (z : Value) (σ : sg_S) : wx z 2 332 0 [(0, .inr (.inl (1885434484)))] [] σ (fun v σ' => v = some (.inr (.inl (1026340))) ∧ σ' = σ) := by
  refine wk_b tt_332 5 (pc' := 8) (ls' := [(4, .inl (56)), (2, .inr (.inl (0))), (0, .inr (.inl (1885434484)))]) (st' := [.inl (56)]) (σ' := σ) rfl ?_
  refine wk_if tt_332 (tgt := 48) rfl rfl (by decide) (fun (h : 56 < 0) => absurd h (by decide)) (fun _ => ?_)
  refine wk_b tt_332 2 (pc' := 14) (ls' := [(4, .inl (56)), (2, .inr (.inl (0))), (0, .inr (.inl (1885434484)))]) (st' := [.inl (56), .inr (.inl (1885434484))]) (σ' := σ) rfl ?_
  obtain ⟨c0, _⟩ : p_letterOf (1885434484) (56) := ⟨by decide, trivial⟩
  refine wk_callp tt_332 rfl rfl rfl rfl rfl tt_279 rfl (by decide) (w_letterOf z σ (1885434484) (56) (by decide) (by decide) ⟨c0, trivial⟩) ?_
  rw [show (v_letterOf (1885434484) (56)) = 0 from by decide]
  refine wk_b tt_332 2 (pc' := 21) (ls' := [(5, .inl (0)), (4, .inl (56)), (2, .inr (.inl (0))), (0, .inr (.inl (1885434484)))]) (st' := [.inl (0)]) (σ' := σ) rfl ?_
  refine wk_if tt_332 (tgt := 28) rfl rfl (by decide) (fun (h : ¬ 0 = 0) => absurd h (by decide)) (fun _ => ?_)
  refine wk_b tt_332 6 (pc' := 8) (ls' := [(4, .inl (48)), (2, .inr (.inl (0))), (5, .inl (0)), (0, .inr (.inl (1885434484)))]) (st' := [.inl (48)]) (σ' := σ) rfl ?_
  refine wk_if tt_332 (tgt := 48) rfl rfl (by decide) (fun (h : 48 < 0) => absurd h (by decide)) (fun _ => ?_)
  refine wk_b tt_332 2 (pc' := 14) (ls' := [(4, .inl (48)), (2, .inr (.inl (0))), (5, .inl (0)), (0, .inr (.inl (1885434484)))]) (st' := [.inl (48), .inr (.inl (1885434484))]) (σ' := σ) rfl ?_
  obtain ⟨c0, _⟩ : p_letterOf (1885434484) (48) := ⟨by decide, trivial⟩
  refine wk_callp tt_332 rfl rfl rfl rfl rfl tt_279 rfl (by decide) (w_letterOf z σ (1885434484) (48) (by decide) (by decide) ⟨c0, trivial⟩) ?_
  rw [show (v_letterOf (1885434484) (48)) = 0 from by decide]
  refine wk_b tt_332 2 (pc' := 21) (ls' := [(5, .inl (0)), (4, .inl (48)), (2, .inr (.inl (0))), (0, .inr (.inl (1885434484)))]) (st' := [.inl (0)]) (σ' := σ) rfl ?_
  refine wk_if tt_332 (tgt := 28) rfl rfl (by decide) (fun (h : ¬ 0 = 0) => absurd h (by decide)) (fun _ => ?_)
  refine wk_b tt_332 6 (pc' := 8) (ls' := [(4, .inl (40)), (2, .inr (.inl (0))), (5, .inl (0)), (0, .inr (.inl (1885434484)))]) (st' := [.inl (40)]) (σ' := σ) rfl ?_
  refine wk_if tt_332 (tgt := 48) rfl rfl (by decide) (fun (h : 40 < 0) => absurd h (by decide)) (fun _ => ?_)
  refine wk_b tt_332 2 (pc' := 14) (ls' := [(4, .inl (40)), (2, .inr (.inl (0))), (5, .inl (0)), (0, .inr (.inl (1885434484)))]) (st' := [.inl (40), .inr (.inl (1885434484))]) (σ' := σ) rfl ?_
  obtain ⟨c0, _⟩ : p_letterOf (1885434484) (40) := ⟨by decide, trivial⟩
  refine wk_callp tt_332 rfl rfl rfl rfl rfl tt_279 rfl (by decide) (w_letterOf z σ (1885434484) (40) (by decide) (by decide) ⟨c0, trivial⟩) ?_
  rw [show (v_letterOf (1885434484) (40)) = 0 from by decide]
  refine wk_b tt_332 2 (pc' := 21) (ls' := [(5, .inl (0)), (4, .inl (40)), (2, .inr (.inl (0))), (0, .inr (.inl (1885434484)))]) (st' := [.inl (0)]) (σ' := σ) rfl ?_
  refine wk_if tt_332 (tgt := 28) rfl rfl (by decide) (fun (h : ¬ 0 = 0) => absurd h (by decide)) (fun _ => ?_)
  refine wk_b tt_332 6 (pc' := 8) (ls' := [(4, .inl (32)), (2, .inr (.inl (0))), (5, .inl (0)), (0, .inr (.inl (1885434484)))]) (st' := [.inl (32)]) (σ' := σ) rfl ?_
  refine wk_if tt_332 (tgt := 48) rfl rfl (by decide) (fun (h : 32 < 0) => absurd h (by decide)) (fun _ => ?_)
  refine wk_b tt_332 2 (pc' := 14) (ls' := [(4, .inl (32)), (2, .inr (.inl (0))), (5, .inl (0)), (0, .inr (.inl (1885434484)))]) (st' := [.inl (32), .inr (.inl (1885434484))]) (σ' := σ) rfl ?_
  obtain ⟨c0, _⟩ : p_letterOf (1885434484) (32) := ⟨by decide, trivial⟩
  refine wk_callp tt_332 rfl rfl rfl rfl rfl tt_279 rfl (by decide) (w_letterOf z σ (1885434484) (32) (by decide) (by decide) ⟨c0, trivial⟩) ?_
  rw [show (v_letterOf (1885434484) (32)) = 0 from by decide]
  refine wk_b tt_332 2 (pc' := 21) (ls' := [(5, .inl (0)), (4, .inl (32)), (2, .inr (.inl (0))), (0, .inr (.inl (1885434484)))]) (st' := [.inl (0)]) (σ' := σ) rfl ?_
  refine wk_if tt_332 (tgt := 28) rfl rfl (by decide) (fun (h : ¬ 0 = 0) => absurd h (by decide)) (fun _ => ?_)
  refine wk_b tt_332 6 (pc' := 8) (ls' := [(4, .inl (24)), (2, .inr (.inl (0))), (5, .inl (0)), (0, .inr (.inl (1885434484)))]) (st' := [.inl (24)]) (σ' := σ) rfl ?_
  refine wk_if tt_332 (tgt := 48) rfl rfl (by decide) (fun (h : 24 < 0) => absurd h (by decide)) (fun _ => ?_)
  refine wk_b tt_332 2 (pc' := 14) (ls' := [(4, .inl (24)), (2, .inr (.inl (0))), (5, .inl (0)), (0, .inr (.inl (1885434484)))]) (st' := [.inl (24), .inr (.inl (1885434484))]) (σ' := σ) rfl ?_
  obtain ⟨c0, _⟩ : p_letterOf (1885434484) (24) := ⟨by decide, trivial⟩
  refine wk_callp tt_332 rfl rfl rfl rfl rfl tt_279 rfl (by decide) (w_letterOf z σ (1885434484) (24) (by decide) (by decide) ⟨c0, trivial⟩) ?_
  rw [show (v_letterOf (1885434484) (24)) = 112 from by decide]
  refine wk_b tt_332 2 (pc' := 21) (ls' := [(5, .inl (112)), (4, .inl (24)), (2, .inr (.inl (0))), (0, .inr (.inl (1885434484)))]) (st' := [.inl (112)]) (σ' := σ) rfl ?_
  refine wk_if tt_332 (tgt := 28) rfl rfl (by decide) (fun _ => ?_) (fun (h : 112 = 0) => absurd h (by decide))
  refine wk_b tt_332 12 (pc' := 8) (ls' := [(4, .inl (16)), (2, .inr (.inl ((((40 * 0) + (sg_n (112))) - 96)))), (5, .inl (112)), (0, .inr (.inl (1885434484)))]) (st' := [.inl (16)]) (σ' := σ) rfl ?_
  rw [show (sg_n (112)) = 112 from by rw [sg_id (by decide)]]
  show wx z 2 332 8 [(4, .inl (16)), (2, .inr (.inl (16))), (5, .inl (112)), (0, .inr (.inl (1885434484)))] [.inl (16)] σ (fun v σ' => v = some (.inr (.inl (1026340))) ∧ σ' = σ)
  refine wk_if tt_332 (tgt := 48) rfl rfl (by decide) (fun (h : 16 < 0) => absurd h (by decide)) (fun _ => ?_)
  refine wk_b tt_332 2 (pc' := 14) (ls' := [(4, .inl (16)), (2, .inr (.inl (16))), (5, .inl (112)), (0, .inr (.inl (1885434484)))]) (st' := [.inl (16), .inr (.inl (1885434484))]) (σ' := σ) rfl ?_
  obtain ⟨c0, _⟩ : p_letterOf (1885434484) (16) := ⟨by decide, trivial⟩
  refine wk_callp tt_332 rfl rfl rfl rfl rfl tt_279 rfl (by decide) (w_letterOf z σ (1885434484) (16) (by decide) (by decide) ⟨c0, trivial⟩) ?_
  rw [show (v_letterOf (1885434484) (16)) = 97 from by decide]
  refine wk_b tt_332 2 (pc' := 21) (ls' := [(5, .inl (97)), (4, .inl (16)), (2, .inr (.inl (16))), (0, .inr (.inl (1885434484)))]) (st' := [.inl (97)]) (σ' := σ) rfl ?_
  refine wk_if tt_332 (tgt := 28) rfl rfl (by decide) (fun _ => ?_) (fun (h : 97 = 0) => absurd h (by decide))
  refine wk_b tt_332 12 (pc' := 8) (ls' := [(4, .inl (8)), (2, .inr (.inl ((((40 * 16) + (sg_n (97))) - 96)))), (5, .inl (97)), (0, .inr (.inl (1885434484)))]) (st' := [.inl (8)]) (σ' := σ) rfl ?_
  rw [show (sg_n (97)) = 97 from by rw [sg_id (by decide)]]
  show wx z 2 332 8 [(4, .inl (8)), (2, .inr (.inl (641))), (5, .inl (97)), (0, .inr (.inl (1885434484)))] [.inl (8)] σ (fun v σ' => v = some (.inr (.inl (1026340))) ∧ σ' = σ)
  refine wk_if tt_332 (tgt := 48) rfl rfl (by decide) (fun (h : 8 < 0) => absurd h (by decide)) (fun _ => ?_)
  refine wk_b tt_332 2 (pc' := 14) (ls' := [(4, .inl (8)), (2, .inr (.inl (641))), (5, .inl (97)), (0, .inr (.inl (1885434484)))]) (st' := [.inl (8), .inr (.inl (1885434484))]) (σ' := σ) rfl ?_
  obtain ⟨c0, _⟩ : p_letterOf (1885434484) (8) := ⟨by decide, trivial⟩
  refine wk_callp tt_332 rfl rfl rfl rfl rfl tt_279 rfl (by decide) (w_letterOf z σ (1885434484) (8) (by decide) (by decide) ⟨c0, trivial⟩) ?_
  rw [show (v_letterOf (1885434484) (8)) = 114 from by decide]
  refine wk_b tt_332 2 (pc' := 21) (ls' := [(5, .inl (114)), (4, .inl (8)), (2, .inr (.inl (641))), (0, .inr (.inl (1885434484)))]) (st' := [.inl (114)]) (σ' := σ) rfl ?_
  refine wk_if tt_332 (tgt := 28) rfl rfl (by decide) (fun _ => ?_) (fun (h : 114 = 0) => absurd h (by decide))
  refine wk_b tt_332 12 (pc' := 8) (ls' := [(4, .inl (0)), (2, .inr (.inl ((((40 * 641) + (sg_n (114))) - 96)))), (5, .inl (114)), (0, .inr (.inl (1885434484)))]) (st' := [.inl (0)]) (σ' := σ) rfl ?_
  rw [show (sg_n (114)) = 114 from by rw [sg_id (by decide)]]
  show wx z 2 332 8 [(4, .inl (0)), (2, .inr (.inl (25658))), (5, .inl (114)), (0, .inr (.inl (1885434484)))] [.inl (0)] σ (fun v σ' => v = some (.inr (.inl (1026340))) ∧ σ' = σ)
  refine wk_if tt_332 (tgt := 48) rfl rfl (by decide) (fun (h : 0 < 0) => absurd h (by decide)) (fun _ => ?_)
  refine wk_b tt_332 2 (pc' := 14) (ls' := [(4, .inl (0)), (2, .inr (.inl (25658))), (5, .inl (114)), (0, .inr (.inl (1885434484)))]) (st' := [.inl (0), .inr (.inl (1885434484))]) (σ' := σ) rfl ?_
  obtain ⟨c0, _⟩ : p_letterOf (1885434484) (0) := ⟨by decide, trivial⟩
  refine wk_callp tt_332 rfl rfl rfl rfl rfl tt_279 rfl (by decide) (w_letterOf z σ (1885434484) (0) (by decide) (by decide) ⟨c0, trivial⟩) ?_
  rw [show (v_letterOf (1885434484) (0)) = 116 from by decide]
  refine wk_b tt_332 2 (pc' := 21) (ls' := [(5, .inl (116)), (4, .inl (0)), (2, .inr (.inl (25658))), (0, .inr (.inl (1885434484)))]) (st' := [.inl (116)]) (σ' := σ) rfl ?_
  refine wk_if tt_332 (tgt := 28) rfl rfl (by decide) (fun _ => ?_) (fun (h : 116 = 0) => absurd h (by decide))
  refine wk_b tt_332 12 (pc' := 8) (ls' := [(4, .inl ((-8))), (2, .inr (.inl ((((40 * 25658) + (sg_n (116))) - 96)))), (5, .inl (116)), (0, .inr (.inl (1885434484)))]) (st' := [.inl ((-8))]) (σ' := σ) rfl ?_
  rw [show (sg_n (116)) = 116 from by rw [sg_id (by decide)]]
  show wx z 2 332 8 [(4, .inl ((-8))), (2, .inr (.inl (1026340))), (5, .inl (116)), (0, .inr (.inl (1885434484)))] [.inl ((-8))] σ (fun v σ' => v = some (.inr (.inl (1026340))) ∧ σ' = σ)
  refine wk_if tt_332 (tgt := 48) rfl rfl (by decide) (fun _ => ?_) (fun (h : 0 ≤ (-8)) => absurd h (by decide))
  refine wk_b tt_332 1 (pc' := 49) (ls' := [(4, .inl ((-8))), (2, .inr (.inl (1026340))), (5, .inl (116)), (0, .inr (.inl (1885434484)))]) (st' := [.inr (.inl (1026340))]) (σ' := σ) rfl ?_
  exact wk_rL tt_332 rfl rfl ⟨rfl, rfl⟩
-- NestedVectorsModel.actOf
def v_actOf  (a0 : Int) : Int := (if ¬ a0 = 600801 then (if ¬ a0 = 271180 then (if ¬ a0 = 31253 then (if ¬ a0 = 20864 then (if ¬ a0 = 21174 then (if ¬ a0 = 1220854 then (if ¬ a0 = 29022 then (if ¬ a0 = 4860 then (if ¬ a0 = 403260 then (if ¬ a0 = 1025731 then (if ¬ a0 = 1032733 then (if ¬ a0 = 1026340 then (0 : Int) else (27 : Int)) else (26 : Int)) else (25 : Int)) else (24 : Int)) else (23 : Int)) else (22 : Int)) else (21 : Int)) else (20 : Int)) else (19 : Int)) else (18 : Int)) else (17 : Int)) else (16 : Int))
set_option maxHeartbeats 4000000 in
set_option maxRecDepth 8000 in
theorem w_actOf (z : Value) (σ : sg_S) (a0 : Int) (ra0 : sg_RL a0) : wx z 3 210 0 [(0, .inr (.inl (a0)))] [] σ (fun v σ' => v = some (.inl (v_actOf a0)) ∧ σ' = σ) := by
  refine wk_b tt_210 2 (pc' := 4) (ls' := [(0, .inr (.inl (a0)))]) (st' := [.inr (.inl (1768911969)), .inr (.inl (a0))]) (σ' := σ) rfl ?_
  refine wk_callp tt_210 rfl rfl rfl rfl rfl tt_332 rfl (by decide) (w_told_1768911969 z σ) ?_
  refine wk_lcif tt_210 (tgt := 14) rfl rfl rfl ra0 (by decide) (fun (h1 : ¬ a0 = 600801) => ?_) (fun (h1 : a0 = 600801) => ?_)
  ·
    refine wk_b tt_210 2 (pc' := 18) (ls' := [(0, .inr (.inl (a0)))]) (st' := [.inr (.inl (1684632436)), .inr (.inl (a0))]) (σ' := σ) rfl ?_
    refine wk_callp tt_210 rfl rfl rfl rfl rfl tt_332 rfl (by decide) (w_told_1684632436 z σ) ?_
    refine wk_lcif tt_210 (tgt := 28) rfl rfl rfl ra0 (by decide) (fun (h2 : ¬ a0 = 271180) => ?_) (fun (h2 : a0 = 271180) => ?_)
    ·
      refine wk_b tt_210 2 (pc' := 32) (ls' := [(0, .inr (.inl (a0)))]) (st' := [.inr (.inl (7566701)), .inr (.inl (a0))]) (σ' := σ) rfl ?_
      refine wk_callp tt_210 rfl rfl rfl rfl rfl tt_332 rfl (by decide) (w_told_7566701 z σ) ?_
      refine wk_lcif tt_210 (tgt := 42) rfl rfl rfl ra0 (by decide) (fun (h3 : ¬ a0 = 31253) => ?_) (fun (h3 : a0 = 31253) => ?_)
      ·
        refine wk_b tt_210 2 (pc' := 46) (ls' := [(0, .inr (.inl (a0)))]) (st' := [.inr (.inl (7168376)), .inr (.inl (a0))]) (σ' := σ) rfl ?_
        refine wk_callp tt_210 rfl rfl rfl rfl rfl tt_332 rfl (by decide) (w_told_7168376 z σ) ?_
        refine wk_lcif tt_210 (tgt := 56) rfl rfl rfl ra0 (by decide) (fun (h4 : ¬ a0 = 20864) => ?_) (fun (h4 : a0 = 20864) => ?_)
        ·
          refine wk_b tt_210 2 (pc' := 60) (ls' := [(0, .inr (.inl (a0)))]) (st' := [.inr (.inl (7170414)), .inr (.inl (a0))]) (σ' := σ) rfl ?_
          refine wk_callp tt_210 rfl rfl rfl rfl rfl tt_332 rfl (by decide) (w_told_7170414 z σ) ?_
          refine wk_lcif tt_210 (tgt := 70) rfl rfl rfl ra0 (by decide) (fun (h5 : ¬ a0 = 21174) => ?_) (fun (h5 : a0 = 21174) => ?_)
          ·
            refine wk_b tt_210 2 (pc' := 74) (ls' := [(0, .inr (.inl (a0)))]) (st' := [.inr (.inl (1935892846)), .inr (.inl (a0))]) (σ' := σ) rfl ?_
            refine wk_callp tt_210 rfl rfl rfl rfl rfl tt_332 rfl (by decide) (w_told_1935892846 z σ) ?_
            refine wk_lcif tt_210 (tgt := 84) rfl rfl rfl ra0 (by decide) (fun (h6 : ¬ a0 = 1220854) => ?_) (fun (h6 : a0 = 1220854) => ?_)
            ·
              refine wk_b tt_210 2 (pc' := 88) (ls' := [(0, .inr (.inl (a0)))]) (st' := [.inr (.inl (7497078)), .inr (.inl (a0))]) (σ' := σ) rfl ?_
              refine wk_callp tt_210 rfl rfl rfl rfl rfl tt_332 rfl (by decide) (w_told_7497078 z σ) ?_
              refine wk_lcif tt_210 (tgt := 98) rfl rfl rfl ra0 (by decide) (fun (h7 : ¬ a0 = 29022) => ?_) (fun (h7 : a0 = 29022) => ?_)
              ·
                refine wk_b tt_210 2 (pc' := 102) (ls' := [(0, .inr (.inl (a0)))]) (st' := [.inr (.inl (6513012)), .inr (.inl (a0))]) (σ' := σ) rfl ?_
                refine wk_callp tt_210 rfl rfl rfl rfl rfl tt_332 rfl (by decide) (w_told_6513012 z σ) ?_
                refine wk_lcif tt_210 (tgt := 112) rfl rfl rfl ra0 (by decide) (fun (h8 : ¬ a0 = 4860) => ?_) (fun (h8 : a0 = 4860) => ?_)
                ·
                  refine wk_b tt_210 2 (pc' := 116) (ls' := [(0, .inr (.inl (a0)))]) (st' := [.inr (.inl (1718378868)), .inr (.inl (a0))]) (σ' := σ) rfl ?_
                  refine wk_callp tt_210 rfl rfl rfl rfl rfl tt_332 rfl (by decide) (w_told_1718378868 z σ) ?_
                  refine wk_lcif tt_210 (tgt := 126) rfl rfl rfl ra0 (by decide) (fun (h9 : ¬ a0 = 403260) => ?_) (fun (h9 : a0 = 403260) => ?_)
                  ·
                    refine wk_b tt_210 2 (pc' := 130) (ls' := [(0, .inr (.inl (a0)))]) (st' := [.inr (.inl (1885430635)), .inr (.inl (a0))]) (σ' := σ) rfl ?_
                    refine wk_callp tt_210 rfl rfl rfl rfl rfl tt_332 rfl (by decide) (w_told_1885430635 z σ) ?_
                    refine wk_lcif tt_210 (tgt := 140) rfl rfl rfl ra0 (by decide) (fun (h10 : ¬ a0 = 1025731) => ?_) (fun (h10 : a0 = 1025731) => ?_)
                    ·
                      refine wk_b tt_210 2 (pc' := 144) (ls' := [(0, .inr (.inl (a0)))]) (st' := [.inr (.inl (1885696621)), .inr (.inl (a0))]) (σ' := σ) rfl ?_
                      refine wk_callp tt_210 rfl rfl rfl rfl rfl tt_332 rfl (by decide) (w_told_1885696621 z σ) ?_
                      refine wk_lcif tt_210 (tgt := 154) rfl rfl rfl ra0 (by decide) (fun (h11 : ¬ a0 = 1032733) => ?_) (fun (h11 : a0 = 1032733) => ?_)
                      ·
                        refine wk_b tt_210 2 (pc' := 158) (ls' := [(0, .inr (.inl (a0)))]) (st' := [.inr (.inl (1885434484)), .inr (.inl (a0))]) (σ' := σ) rfl ?_
                        refine wk_callp tt_210 rfl rfl rfl rfl rfl tt_332 rfl (by decide) (w_told_1885434484 z σ) ?_
                        refine wk_lcif tt_210 (tgt := 170) rfl rfl rfl ra0 (by decide) (fun (h12 : ¬ a0 = 1026340) => ?_) (fun (h12 : a0 = 1026340) => ?_)
                        ·
                          refine wk_b tt_210 1 (pc' := 171) (ls' := [(0, .inr (.inl (a0)))]) (st' := [.inl (0)]) (σ' := σ) rfl ?_
                          exact wk_rI tt_210 rfl rfl ⟨by rw [v_actOf, if_pos h1, if_pos h2, if_pos h3, if_pos h4, if_pos h5, if_pos h6, if_pos h7, if_pos h8, if_pos h9, if_pos h10, if_pos h11, if_pos h12], rfl⟩
                        ·
                          refine wk_b tt_210 2 (pc' := 171) (ls' := [(0, .inr (.inl (a0)))]) (st' := [.inl (27)]) (σ' := σ) rfl ?_
                          exact wk_rI tt_210 rfl rfl ⟨by rw [v_actOf, if_pos h1, if_pos h2, if_pos h3, if_pos h4, if_pos h5, if_pos h6, if_pos h7, if_pos h8, if_pos h9, if_pos h10, if_pos h11, if_neg (show ¬ (¬ a0 = 1026340) by omega)], rfl⟩
                      ·
                        refine wk_b tt_210 1 (pc' := 153) (ls' := [(0, .inr (.inl (a0)))]) (st' := [.inl (26)]) (σ' := σ) rfl ?_
                        exact wk_rI tt_210 rfl rfl ⟨by rw [v_actOf, if_pos h1, if_pos h2, if_pos h3, if_pos h4, if_pos h5, if_pos h6, if_pos h7, if_pos h8, if_pos h9, if_pos h10, if_neg (show ¬ (¬ a0 = 1032733) by omega)], rfl⟩
                    ·
                      refine wk_b tt_210 1 (pc' := 139) (ls' := [(0, .inr (.inl (a0)))]) (st' := [.inl (25)]) (σ' := σ) rfl ?_
                      exact wk_rI tt_210 rfl rfl ⟨by rw [v_actOf, if_pos h1, if_pos h2, if_pos h3, if_pos h4, if_pos h5, if_pos h6, if_pos h7, if_pos h8, if_pos h9, if_neg (show ¬ (¬ a0 = 1025731) by omega)], rfl⟩
                  ·
                    refine wk_b tt_210 1 (pc' := 125) (ls' := [(0, .inr (.inl (a0)))]) (st' := [.inl (24)]) (σ' := σ) rfl ?_
                    exact wk_rI tt_210 rfl rfl ⟨by rw [v_actOf, if_pos h1, if_pos h2, if_pos h3, if_pos h4, if_pos h5, if_pos h6, if_pos h7, if_pos h8, if_neg (show ¬ (¬ a0 = 403260) by omega)], rfl⟩
                ·
                  refine wk_b tt_210 1 (pc' := 111) (ls' := [(0, .inr (.inl (a0)))]) (st' := [.inl (23)]) (σ' := σ) rfl ?_
                  exact wk_rI tt_210 rfl rfl ⟨by rw [v_actOf, if_pos h1, if_pos h2, if_pos h3, if_pos h4, if_pos h5, if_pos h6, if_pos h7, if_neg (show ¬ (¬ a0 = 4860) by omega)], rfl⟩
              ·
                refine wk_b tt_210 1 (pc' := 97) (ls' := [(0, .inr (.inl (a0)))]) (st' := [.inl (22)]) (σ' := σ) rfl ?_
                exact wk_rI tt_210 rfl rfl ⟨by rw [v_actOf, if_pos h1, if_pos h2, if_pos h3, if_pos h4, if_pos h5, if_pos h6, if_neg (show ¬ (¬ a0 = 29022) by omega)], rfl⟩
            ·
              refine wk_b tt_210 1 (pc' := 83) (ls' := [(0, .inr (.inl (a0)))]) (st' := [.inl (21)]) (σ' := σ) rfl ?_
              exact wk_rI tt_210 rfl rfl ⟨by rw [v_actOf, if_pos h1, if_pos h2, if_pos h3, if_pos h4, if_pos h5, if_neg (show ¬ (¬ a0 = 1220854) by omega)], rfl⟩
          ·
            refine wk_b tt_210 1 (pc' := 69) (ls' := [(0, .inr (.inl (a0)))]) (st' := [.inl (20)]) (σ' := σ) rfl ?_
            exact wk_rI tt_210 rfl rfl ⟨by rw [v_actOf, if_pos h1, if_pos h2, if_pos h3, if_pos h4, if_neg (show ¬ (¬ a0 = 21174) by omega)], rfl⟩
        ·
          refine wk_b tt_210 1 (pc' := 55) (ls' := [(0, .inr (.inl (a0)))]) (st' := [.inl (19)]) (σ' := σ) rfl ?_
          exact wk_rI tt_210 rfl rfl ⟨by rw [v_actOf, if_pos h1, if_pos h2, if_pos h3, if_neg (show ¬ (¬ a0 = 20864) by omega)], rfl⟩
      ·
        refine wk_b tt_210 1 (pc' := 41) (ls' := [(0, .inr (.inl (a0)))]) (st' := [.inl (18)]) (σ' := σ) rfl ?_
        exact wk_rI tt_210 rfl rfl ⟨by rw [v_actOf, if_pos h1, if_pos h2, if_neg (show ¬ (¬ a0 = 31253) by omega)], rfl⟩
    ·
      refine wk_b tt_210 1 (pc' := 27) (ls' := [(0, .inr (.inl (a0)))]) (st' := [.inl (17)]) (σ' := σ) rfl ?_
      exact wk_rI tt_210 rfl rfl ⟨by rw [v_actOf, if_pos h1, if_neg (show ¬ (¬ a0 = 271180) by omega)], rfl⟩
  ·
    refine wk_b tt_210 1 (pc' := 13) (ls' := [(0, .inr (.inl (a0)))]) (st' := [.inl (16)]) (σ' := σ) rfl ?_
    exact wk_rI tt_210 rfl rfl ⟨by rw [v_actOf, if_neg (show ¬ (¬ a0 = 600801) by omega)], rfl⟩
theorem vr_actOf  (a0 : Int) (ra0 : sg_RL a0) : sg_R (v_actOf a0) := by
  unfold v_actOf
  by_cases h : ¬ a0 = 600801
  · rw [if_pos h]
    by_cases h : ¬ a0 = 271180
    · rw [if_pos h]
      by_cases h : ¬ a0 = 31253
      · rw [if_pos h]
        by_cases h : ¬ a0 = 20864
        · rw [if_pos h]
          by_cases h : ¬ a0 = 21174
          · rw [if_pos h]
            by_cases h : ¬ a0 = 1220854
            · rw [if_pos h]
              by_cases h : ¬ a0 = 29022
              · rw [if_pos h]
                by_cases h : ¬ a0 = 4860
                · rw [if_pos h]
                  by_cases h : ¬ a0 = 403260
                  · rw [if_pos h]
                    by_cases h : ¬ a0 = 1025731
                    · rw [if_pos h]
                      by_cases h : ¬ a0 = 1032733
                      · rw [if_pos h]
                        by_cases h : ¬ a0 = 1026340
                        · rw [if_pos h]
                          decide
                        · rw [if_neg h]
                          decide
                      · rw [if_neg h]
                        decide
                    · rw [if_neg h]
                      decide
                  · rw [if_neg h]
                    decide
                · rw [if_neg h]
                  decide
              · rw [if_neg h]
                decide
            · rw [if_neg h]
              decide
          · rw [if_neg h]
            decide
        · rw [if_neg h]
          decide
      · rw [if_neg h]
        decide
    · rw [if_neg h]
      decide
  · rw [if_neg h]
    decide
