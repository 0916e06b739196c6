-- NestedVectors$Tokens.stop
set_option maxRecDepth 8000 in
theorem px_stop (z : Value) (σ : sg_S)  : wx z 0 200 0 [(0, .inr (.inr (.ref 36)))] [] σ (fun v σ' => v = none ∧ sg_F [5036] σ σ' ∧ sg_g σ' 36 4 = 260) := by
  refine wk_b tt_200 3 (pc' := 7) (ls' := [(0, .inr (.inr (.ref 36)))]) (st' := []) (σ' := (sg_w σ 36 4 (260))) rfl ?_
  refine wk_rV tt_200 rfl rfl ?_
  exact ⟨rfl, (sg_F_w (sg_F_r [5036] σ) rfl _), sg_gw_e _ _ _ _ (by decide)⟩
-- NestedVectors$Parser.fail
set_option maxRecDepth 8000 in
theorem px_fail (z : Value) (σ : sg_S) (h : 0 ≤ sg_g σ 35 3 ∨ 0 ≤ sg_g σ 36 5) : wx z 1 175 0 [(0, .inr (.inr (.ref 35)))] [] σ (fun v σ' => v = none ∧ sg_F [4035, 5036] σ σ' ∧ jm σ') := by
  refine wk_b tt_175 2 (pc' := 4) (ls' := [(0, .inr (.inr (.ref 35)))]) (st' := [.inl ((sg_g σ 35 3))]) (σ' := σ) rfl ?_
  have r1 := sg_Rg σ 35 3
  refine wk_if tt_175 (tgt := 18) rfl rfl (by omega) (fun (h2 : 0 ≤ (sg_g σ 35 3)) => ?_) (fun (h2 : (sg_g σ 35 3) < 0) => ?_)
  ·
    refine wk_b tt_175 2 (pc' := 22) (ls' := [(0, .inr (.inr (.ref 35)))]) (st' := [.inr (.inr (.ref 36))]) (σ' := σ) rfl ?_
    refine wk_call tt_175 rfl rfl rfl rfl rfl tt_200 rfl (by decide) (px_stop z σ) (fun w3 σ4 hq5 => ?_)
    obtain ⟨rfl, hF6, p7⟩ := hq5
    refine wk_rV tt_175 rfl rfl ?_
    refine ⟨rfl, (sg_F_t (sg_F_r [4035, 5036] σ) (sg_F_m (L := [4035, 5036]) hF6 rfl)), p7, ?_⟩
    rw [sg_F_ga hF6 rfl]
    omega
  ·
    refine wk_b tt_175 7 (pc' := 22) (ls' := [(0, .inr (.inr (.ref 35)))]) (st' := [.inr (.inr (.ref 36))]) (σ' := (sg_w σ 35 3 ((sg_g σ 36 5)))) rfl ?_
    have r8 := sg_Rg σ 36 5
    refine wk_call tt_175 rfl rfl rfl rfl rfl tt_200 rfl (by decide) (px_stop z (sg_w σ 35 3 ((sg_g σ 36 5)))) (fun w9 σ10 hq11 => ?_)
    obtain ⟨rfl, hF12, p13⟩ := hq11
    refine wk_rV tt_175 rfl rfl ?_
    refine ⟨rfl, (sg_F_t (sg_F_w (sg_F_r [4035, 5036] σ) rfl _) (sg_F_m (L := [4035, 5036]) hF12 rfl)), p13, ?_⟩
    rw [sg_F_ga hF12 rfl, sg_gw_e _ _ _ _ (by omega)]
    omega
theorem px_failR (z : Value) (σ : sg_S) (c : tkC) (hc : tkOK c) (i : Nat) (hk : tk c σ i) : wx z 1 175 0 [(0, .inr (.inr (.ref 35)))] [] σ (fun v σ' => v = none ∧ sg_F [4035, 5036] σ σ' ∧ jm σ') := px_fail z σ (Or.inr (by rw [hk.2.2.2.2.2.1]; exact (tPl_r hc i).1))
theorem px_failJ (z : Value) (σ : sg_S) (hj : jm σ) : wx z 1 175 0 [(0, .inr (.inr (.ref 35)))] [] σ (fun v σ' => v = none ∧ sg_F [4035, 5036] σ σ' ∧ jm σ') := px_fail z σ (Or.inl hj.2)
-- NestedVectors$Tokens.advance
set_option maxRecDepth 8000 in
theorem px_advJ (z : Value) (σ : sg_S) (hj : jm σ) : wx z 0 195 0 [(0, .inr (.inr (.ref 36)))] [] σ (fun v σ' => v = none ∧ sg_F [] σ σ' ∧ jm σ') := by
  have hj1 := hj.1
  refine wk_b tt_195 3 (pc' := 7) (ls' := [(0, .inr (.inr (.ref 36)))]) (st' := [.inl (260), .inl ((sg_g σ 36 4))]) (σ' := σ) rfl ?_
  have r1 := sg_Rg σ 36 4
  refine wk_if2 tt_195 (tgt := 11) rfl rfl (by omega) (by decide) (fun (h : ¬ (sg_g σ 36 4) = 260) => absurd h (by omega)) (fun (h2 : (sg_g σ 36 4) = 260) => ?_)
  refine wk_rV tt_195 rfl rfl ?_
  exact ⟨rfl, sg_F_r _ _, hj⟩
-- NestedVectors$Tree.add
set_option maxRecDepth 8000 in
theorem px_add (z : Value) (σ : sg_S) (a1 : Int) (a2 : Int) (τ : sg_S) (ht : te σ τ) (ra1 : sg_R a1) (ra2 : sg_R a2) : wx z 1 204 0 [(0, .inr (.inr (.ref 2))), (1, .inl (a1)), (2, .inl (a2))] [] σ (fun v σ' => v = some (.inl ((sg_g τ 2 16))) ∧ sg_F [3, 4, 7, 8, 9, 10, 11, 12, 13, 14, 17002] σ σ' ∧ te σ' (pAdd τ (a1) (a2))) := by
  refine wk_b tt_204 13 (pc' := 21) (ls' := [(3, .inl ((sg_g σ 2 16))), (0, .inr (.inr (.ref 2))), (1, .inl (a1)), (2, .inl (a2))]) (st' := [.inl (a1), .inl ((sg_g σ 2 16)), .inr (.inr (.ref 3))]) (σ' := (sg_w σ 2 16 (((sg_g σ 2 16) + 1)))) rfl ?_
  have r1 := sg_Rg τ 2 16
  rw [show (sg_g σ 2 16) = (sg_g τ 2 16) from by rw [ag_g ht rfl]]
  refine wk_callp (v0 := none) (σ1 := (sx_put (sg_w σ 2 16 (((sg_g τ 2 16) + 1))) 3 200 ((sg_g τ 2 16)) (a1))) tt_204 rfl rfl rfl rfl rfl tt_21 rfl (by decide) (pt_i0 z (sg_w σ 2 16 (((sg_g τ 2 16) + 1))) 3 200 ((sg_g τ 2 16)) (a1) rfl (by decide) (by omega)) ?_
  refine wk_b tt_204 4 (pc' := 30) (ls' := [(3, .inl ((sg_g τ 2 16))), (0, .inr (.inr (.ref 2))), (1, .inl (a1)), (2, .inl (a2))]) (st' := [.inl (a2), .inl ((sg_g τ 2 16)), .inr (.inr (.ref 4))]) (σ' := (sx_put (sg_w σ 2 16 (((sg_g τ 2 16) + 1))) 3 200 ((sg_g τ 2 16)) (a1))) rfl ?_
  refine wk_callp (v0 := none) (σ1 := (sx_put (sx_put (sg_w σ 2 16 (((sg_g τ 2 16) + 1))) 3 200 ((sg_g τ 2 16)) (a1)) 4 200 ((sg_g τ 2 16)) (a2))) tt_204 rfl rfl rfl rfl rfl tt_21 rfl (by decide) (pt_i0 z (sx_put (sg_w σ 2 16 (((sg_g τ 2 16) + 1))) 3 200 ((sg_g τ 2 16)) (a1)) 4 200 ((sg_g τ 2 16)) (a2) rfl (by decide) (by omega)) ?_
  refine wk_b tt_204 4 (pc' := 39) (ls' := [(3, .inl ((sg_g τ 2 16))), (0, .inr (.inr (.ref 2))), (1, .inl (a1)), (2, .inl (a2))]) (st' := [.inl ((-1)), .inl ((sg_g τ 2 16)), .inr (.inr (.ref 7))]) (σ' := (sx_put (sx_put (sg_w σ 2 16 (((sg_g τ 2 16) + 1))) 3 200 ((sg_g τ 2 16)) (a1)) 4 200 ((sg_g τ 2 16)) (a2))) rfl ?_
  refine wk_callp (v0 := none) (σ1 := (sx_put (sx_put (sx_put (sg_w σ 2 16 (((sg_g τ 2 16) + 1))) 3 200 ((sg_g τ 2 16)) (a1)) 4 200 ((sg_g τ 2 16)) (a2)) 7 200 ((sg_g τ 2 16)) ((-1)))) tt_204 rfl rfl rfl rfl rfl tt_21 rfl (by decide) (pt_i0 z (sx_put (sx_put (sg_w σ 2 16 (((sg_g τ 2 16) + 1))) 3 200 ((sg_g τ 2 16)) (a1)) 4 200 ((sg_g τ 2 16)) (a2)) 7 200 ((sg_g τ 2 16)) ((-1)) rfl (by decide) (by omega)) ?_
  refine wk_b tt_204 4 (pc' := 48) (ls' := [(3, .inl ((sg_g τ 2 16))), (0, .inr (.inr (.ref 2))), (1, .inl (a1)), (2, .inl (a2))]) (st' := [.inl ((-1)), .inl ((sg_g τ 2 16)), .inr (.inr (.ref 8))]) (σ' := (sx_put (sx_put (sx_put (sg_w σ 2 16 (((sg_g τ 2 16) + 1))) 3 200 ((sg_g τ 2 16)) (a1)) 4 200 ((sg_g τ 2 16)) (a2)) 7 200 ((sg_g τ 2 16)) ((-1)))) rfl ?_
  refine wk_callp (v0 := none) (σ1 := (sx_put (sx_put (sx_put (sx_put (sg_w σ 2 16 (((sg_g τ 2 16) + 1))) 3 200 ((sg_g τ 2 16)) (a1)) 4 200 ((sg_g τ 2 16)) (a2)) 7 200 ((sg_g τ 2 16)) ((-1))) 8 200 ((sg_g τ 2 16)) ((-1)))) tt_204 rfl rfl rfl rfl rfl tt_21 rfl (by decide) (pt_i0 z (sx_put (sx_put (sx_put (sg_w σ 2 16 (((sg_g τ 2 16) + 1))) 3 200 ((sg_g τ 2 16)) (a1)) 4 200 ((sg_g τ 2 16)) (a2)) 7 200 ((sg_g τ 2 16)) ((-1))) 8 200 ((sg_g τ 2 16)) ((-1)) rfl (by decide) (by omega)) ?_
  refine wk_b tt_204 4 (pc' := 57) (ls' := [(3, .inl ((sg_g τ 2 16))), (0, .inr (.inr (.ref 2))), (1, .inl (a1)), (2, .inl (a2))]) (st' := [.inl ((-1)), .inl ((sg_g τ 2 16)), .inr (.inr (.ref 9))]) (σ' := (sx_put (sx_put (sx_put (sx_put (sg_w σ 2 16 (((sg_g τ 2 16) + 1))) 3 200 ((sg_g τ 2 16)) (a1)) 4 200 ((sg_g τ 2 16)) (a2)) 7 200 ((sg_g τ 2 16)) ((-1))) 8 200 ((sg_g τ 2 16)) ((-1)))) rfl ?_
  refine wk_callp (v0 := none) (σ1 := (sx_put (sx_put (sx_put (sx_put (sx_put (sg_w σ 2 16 (((sg_g τ 2 16) + 1))) 3 200 ((sg_g τ 2 16)) (a1)) 4 200 ((sg_g τ 2 16)) (a2)) 7 200 ((sg_g τ 2 16)) ((-1))) 8 200 ((sg_g τ 2 16)) ((-1))) 9 200 ((sg_g τ 2 16)) ((-1)))) tt_204 rfl rfl rfl rfl rfl tt_21 rfl (by decide) (pt_i0 z (sx_put (sx_put (sx_put (sx_put (sg_w σ 2 16 (((sg_g τ 2 16) + 1))) 3 200 ((sg_g τ 2 16)) (a1)) 4 200 ((sg_g τ 2 16)) (a2)) 7 200 ((sg_g τ 2 16)) ((-1))) 8 200 ((sg_g τ 2 16)) ((-1))) 9 200 ((sg_g τ 2 16)) ((-1)) rfl (by decide) (by omega)) ?_
  refine wk_b tt_204 4 (pc' := 66) (ls' := [(3, .inl ((sg_g τ 2 16))), (0, .inr (.inr (.ref 2))), (1, .inl (a1)), (2, .inl (a2))]) (st' := [.inl (0), .inl ((sg_g τ 2 16)), .inr (.inr (.ref 10))]) (σ' := (sx_put (sx_put (sx_put (sx_put (sx_put (sg_w σ 2 16 (((sg_g τ 2 16) + 1))) 3 200 ((sg_g τ 2 16)) (a1)) 4 200 ((sg_g τ 2 16)) (a2)) 7 200 ((sg_g τ 2 16)) ((-1))) 8 200 ((sg_g τ 2 16)) ((-1))) 9 200 ((sg_g τ 2 16)) ((-1)))) rfl ?_
  refine wk_callp (v0 := none) (σ1 := (sx_put (sx_put (sx_put (sx_put (sx_put (sx_put (sg_w σ 2 16 (((sg_g τ 2 16) + 1))) 3 200 ((sg_g τ 2 16)) (a1)) 4 200 ((sg_g τ 2 16)) (a2)) 7 200 ((sg_g τ 2 16)) ((-1))) 8 200 ((sg_g τ 2 16)) ((-1))) 9 200 ((sg_g τ 2 16)) ((-1))) 10 200 ((sg_g τ 2 16)) (0))) tt_204 rfl rfl rfl rfl rfl tt_21 rfl (by decide) (pt_i0 z (sx_put (sx_put (sx_put (sx_put (sx_put (sg_w σ 2 16 (((sg_g τ 2 16) + 1))) 3 200 ((sg_g τ 2 16)) (a1)) 4 200 ((sg_g τ 2 16)) (a2)) 7 200 ((sg_g τ 2 16)) ((-1))) 8 200 ((sg_g τ 2 16)) ((-1))) 9 200 ((sg_g τ 2 16)) ((-1))) 10 200 ((sg_g τ 2 16)) (0) rfl (by decide) (by omega)) ?_
  refine wk_b tt_204 4 (pc' := 75) (ls' := [(3, .inl ((sg_g τ 2 16))), (0, .inr (.inr (.ref 2))), (1, .inl (a1)), (2, .inl (a2))]) (st' := [.inl (0), .inl ((sg_g τ 2 16)), .inr (.inr (.ref 13))]) (σ' := (sx_put (sx_put (sx_put (sx_put (sx_put (sx_put (sg_w σ 2 16 (((sg_g τ 2 16) + 1))) 3 200 ((sg_g τ 2 16)) (a1)) 4 200 ((sg_g τ 2 16)) (a2)) 7 200 ((sg_g τ 2 16)) ((-1))) 8 200 ((sg_g τ 2 16)) ((-1))) 9 200 ((sg_g τ 2 16)) ((-1))) 10 200 ((sg_g τ 2 16)) (0))) rfl ?_
  refine wk_callp (v0 := none) (σ1 := (sx_put (sx_put (sx_put (sx_put (sx_put (sx_put (sx_put (sg_w σ 2 16 (((sg_g τ 2 16) + 1))) 3 200 ((sg_g τ 2 16)) (a1)) 4 200 ((sg_g τ 2 16)) (a2)) 7 200 ((sg_g τ 2 16)) ((-1))) 8 200 ((sg_g τ 2 16)) ((-1))) 9 200 ((sg_g τ 2 16)) ((-1))) 10 200 ((sg_g τ 2 16)) (0)) 13 200 ((sg_g τ 2 16)) (0))) tt_204 rfl rfl rfl rfl rfl tt_21 rfl (by decide) (pt_i0 z (sx_put (sx_put (sx_put (sx_put (sx_put (sx_put (sg_w σ 2 16 (((sg_g τ 2 16) + 1))) 3 200 ((sg_g τ 2 16)) (a1)) 4 200 ((sg_g τ 2 16)) (a2)) 7 200 ((sg_g τ 2 16)) ((-1))) 8 200 ((sg_g τ 2 16)) ((-1))) 9 200 ((sg_g τ 2 16)) ((-1))) 10 200 ((sg_g τ 2 16)) (0)) 13 200 ((sg_g τ 2 16)) (0) rfl (by decide) (by omega)) ?_
  refine wk_b tt_204 4 (pc' := 84) (ls' := [(3, .inl ((sg_g τ 2 16))), (0, .inr (.inr (.ref 2))), (1, .inl (a1)), (2, .inl (a2))]) (st' := [.inl ((-1)), .inl ((sg_g τ 2 16)), .inr (.inr (.ref 14))]) (σ' := (sx_put (sx_put (sx_put (sx_put (sx_put (sx_put (sx_put (sg_w σ 2 16 (((sg_g τ 2 16) + 1))) 3 200 ((sg_g τ 2 16)) (a1)) 4 200 ((sg_g τ 2 16)) (a2)) 7 200 ((sg_g τ 2 16)) ((-1))) 8 200 ((sg_g τ 2 16)) ((-1))) 9 200 ((sg_g τ 2 16)) ((-1))) 10 200 ((sg_g τ 2 16)) (0)) 13 200 ((sg_g τ 2 16)) (0))) rfl ?_
  refine wk_callp (v0 := none) (σ1 := (sx_put (sx_put (sx_put (sx_put (sx_put (sx_put (sx_put (sx_put (sg_w σ 2 16 (((sg_g τ 2 16) + 1))) 3 200 ((sg_g τ 2 16)) (a1)) 4 200 ((sg_g τ 2 16)) (a2)) 7 200 ((sg_g τ 2 16)) ((-1))) 8 200 ((sg_g τ 2 16)) ((-1))) 9 200 ((sg_g τ 2 16)) ((-1))) 10 200 ((sg_g τ 2 16)) (0)) 13 200 ((sg_g τ 2 16)) (0)) 14 200 ((sg_g τ 2 16)) ((-1)))) tt_204 rfl rfl rfl rfl rfl tt_21 rfl (by decide) (pt_i0 z (sx_put (sx_put (sx_put (sx_put (sx_put (sx_put (sx_put (sg_w σ 2 16 (((sg_g τ 2 16) + 1))) 3 200 ((sg_g τ 2 16)) (a1)) 4 200 ((sg_g τ 2 16)) (a2)) 7 200 ((sg_g τ 2 16)) ((-1))) 8 200 ((sg_g τ 2 16)) ((-1))) 9 200 ((sg_g τ 2 16)) ((-1))) 10 200 ((sg_g τ 2 16)) (0)) 13 200 ((sg_g τ 2 16)) (0)) 14 200 ((sg_g τ 2 16)) ((-1)) rfl (by decide) (by omega)) ?_
  refine wk_b tt_204 4 (pc' := 93) (ls' := [(3, .inl ((sg_g τ 2 16))), (0, .inr (.inr (.ref 2))), (1, .inl (a1)), (2, .inl (a2))]) (st' := [.inl ((sg_g τ 2 16)), .inl ((sg_g τ 2 16)), .inr (.inr (.ref 11))]) (σ' := (sx_put (sx_put (sx_put (sx_put (sx_put (sx_put (sx_put (sx_put (sg_w σ 2 16 (((sg_g τ 2 16) + 1))) 3 200 ((sg_g τ 2 16)) (a1)) 4 200 ((sg_g τ 2 16)) (a2)) 7 200 ((sg_g τ 2 16)) ((-1))) 8 200 ((sg_g τ 2 16)) ((-1))) 9 200 ((sg_g τ 2 16)) ((-1))) 10 200 ((sg_g τ 2 16)) (0)) 13 200 ((sg_g τ 2 16)) (0)) 14 200 ((sg_g τ 2 16)) ((-1)))) rfl ?_
  refine wk_callp (v0 := none) (σ1 := (sx_put (sx_put (sx_put (sx_put (sx_put (sx_put (sx_put (sx_put (sx_put (sg_w σ 2 16 (((sg_g τ 2 16) + 1))) 3 200 ((sg_g τ 2 16)) (a1)) 4 200 ((sg_g τ 2 16)) (a2)) 7 200 ((sg_g τ 2 16)) ((-1))) 8 200 ((sg_g τ 2 16)) ((-1))) 9 200 ((sg_g τ 2 16)) ((-1))) 10 200 ((sg_g τ 2 16)) (0)) 13 200 ((sg_g τ 2 16)) (0)) 14 200 ((sg_g τ 2 16)) ((-1))) 11 200 ((sg_g τ 2 16)) ((sg_g τ 2 16)))) tt_204 rfl rfl rfl rfl rfl tt_21 rfl (by decide) (pt_i0 z (sx_put (sx_put (sx_put (sx_put (sx_put (sx_put (sx_put (sx_put (sg_w σ 2 16 (((sg_g τ 2 16) + 1))) 3 200 ((sg_g τ 2 16)) (a1)) 4 200 ((sg_g τ 2 16)) (a2)) 7 200 ((sg_g τ 2 16)) ((-1))) 8 200 ((sg_g τ 2 16)) ((-1))) 9 200 ((sg_g τ 2 16)) ((-1))) 10 200 ((sg_g τ 2 16)) (0)) 13 200 ((sg_g τ 2 16)) (0)) 14 200 ((sg_g τ 2 16)) ((-1))) 11 200 ((sg_g τ 2 16)) ((sg_g τ 2 16)) rfl (by decide) (by omega)) ?_
  refine wk_b tt_204 4 (pc' := 102) (ls' := [(3, .inl ((sg_g τ 2 16))), (0, .inr (.inr (.ref 2))), (1, .inl (a1)), (2, .inl (a2))]) (st' := [.inl ((sg_g τ 2 16)), .inl ((sg_g τ 2 16)), .inr (.inr (.ref 12))]) (σ' := (sx_put (sx_put (sx_put (sx_put (sx_put (sx_put (sx_put (sx_put (sx_put (sg_w σ 2 16 (((sg_g τ 2 16) + 1))) 3 200 ((sg_g τ 2 16)) (a1)) 4 200 ((sg_g τ 2 16)) (a2)) 7 200 ((sg_g τ 2 16)) ((-1))) 8 200 ((sg_g τ 2 16)) ((-1))) 9 200 ((sg_g τ 2 16)) ((-1))) 10 200 ((sg_g τ 2 16)) (0)) 13 200 ((sg_g τ 2 16)) (0)) 14 200 ((sg_g τ 2 16)) ((-1))) 11 200 ((sg_g τ 2 16)) ((sg_g τ 2 16)))) rfl ?_
  refine wk_callp (v0 := none) (σ1 := (sx_put (sx_put (sx_put (sx_put (sx_put (sx_put (sx_put (sx_put (sx_put (sx_put (sg_w σ 2 16 (((sg_g τ 2 16) + 1))) 3 200 ((sg_g τ 2 16)) (a1)) 4 200 ((sg_g τ 2 16)) (a2)) 7 200 ((sg_g τ 2 16)) ((-1))) 8 200 ((sg_g τ 2 16)) ((-1))) 9 200 ((sg_g τ 2 16)) ((-1))) 10 200 ((sg_g τ 2 16)) (0)) 13 200 ((sg_g τ 2 16)) (0)) 14 200 ((sg_g τ 2 16)) ((-1))) 11 200 ((sg_g τ 2 16)) ((sg_g τ 2 16))) 12 200 ((sg_g τ 2 16)) ((sg_g τ 2 16)))) tt_204 rfl rfl rfl rfl rfl tt_21 rfl (by decide) (pt_i0 z (sx_put (sx_put (sx_put (sx_put (sx_put (sx_put (sx_put (sx_put (sx_put (sg_w σ 2 16 (((sg_g τ 2 16) + 1))) 3 200 ((sg_g τ 2 16)) (a1)) 4 200 ((sg_g τ 2 16)) (a2)) 7 200 ((sg_g τ 2 16)) ((-1))) 8 200 ((sg_g τ 2 16)) ((-1))) 9 200 ((sg_g τ 2 16)) ((-1))) 10 200 ((sg_g τ 2 16)) (0)) 13 200 ((sg_g τ 2 16)) (0)) 14 200 ((sg_g τ 2 16)) ((-1))) 11 200 ((sg_g τ 2 16)) ((sg_g τ 2 16))) 12 200 ((sg_g τ 2 16)) ((sg_g τ 2 16)) rfl (by decide) (by omega)) ?_
  refine wk_b tt_204 1 (pc' := 106) (ls' := [(3, .inl ((sg_g τ 2 16))), (0, .inr (.inr (.ref 2))), (1, .inl (a1)), (2, .inl (a2))]) (st' := [.inl ((sg_g τ 2 16))]) (σ' := (sx_put (sx_put (sx_put (sx_put (sx_put (sx_put (sx_put (sx_put (sx_put (sx_put (sg_w σ 2 16 (((sg_g τ 2 16) + 1))) 3 200 ((sg_g τ 2 16)) (a1)) 4 200 ((sg_g τ 2 16)) (a2)) 7 200 ((sg_g τ 2 16)) ((-1))) 8 200 ((sg_g τ 2 16)) ((-1))) 9 200 ((sg_g τ 2 16)) ((-1))) 10 200 ((sg_g τ 2 16)) (0)) 13 200 ((sg_g τ 2 16)) (0)) 14 200 ((sg_g τ 2 16)) ((-1))) 11 200 ((sg_g τ 2 16)) ((sg_g τ 2 16))) 12 200 ((sg_g τ 2 16)) ((sg_g τ 2 16)))) rfl ?_
  refine wk_rI tt_204 rfl rfl ?_
  exact ⟨rfl, (sg_F_p (sg_F_p (sg_F_p (sg_F_p (sg_F_p (sg_F_p (sg_F_p (sg_F_p (sg_F_p (sg_F_p (sg_F_w (sg_F_r [3, 4, 7, 8, 9, 10, 11, 12, 13, 14, 17002] σ) rfl _) rfl _ _ _) rfl _ _ _) rfl _ _ _) rfl _ _ _) rfl _ _ _) rfl _ _ _) rfl _ _ _) rfl _ _ _) rfl _ _ _) rfl _ _ _), (ag_p (ag_p (ag_p (ag_p (ag_p (ag_p (ag_p (ag_p (ag_p (ag_p (ag_w ht _ _ _) _ _ _ _) _ _ _ _) _ _ _ _) _ _ _ _) _ _ _ _) _ _ _ _) _ _ _ _) _ _ _ _) _ _ _ _) _ _ _ _)⟩
-- NestedVectors$Tree.attach
set_option maxRecDepth 8000 in
theorem px_att (z : Value) (σ : sg_S) (a1 : Int) (a2 : Int) (τ : sg_S) (ht : te σ τ) (ra1 : sg_R a1) (ra2 : sg_R a2) : wx z 1 205 0 [(0, .inr (.inr (.ref 2))), (1, .inl (a1)), (2, .inl (a2))] [] σ (fun v σ' => v = none ∧ sg_F [7, 8, 9, 10] σ σ' ∧ te σ' (pAttach τ (a1) (a2))) := by
  refine wk_b tt_205 1 (pc' := 1) (ls' := [(0, .inr (.inr (.ref 2))), (1, .inl (a1)), (2, .inl (a2))]) (st' := [.inl (a1)]) (σ' := σ) rfl ?_
  refine wk_if tt_205 (tgt := 8) rfl rfl (by omega) (fun (h1 : a1 < 0) => ?_) (fun (h1 : 0 ≤ a1) => ?_)
  ·
    refine wk_rV tt_205 rfl rfl ?_
    exact ⟨rfl, (sg_F_r [7, 8, 9, 10] σ), by rw [show (pAttach τ (a1) (a2)) = τ from by have e0 : a1 < 0 ∨ a2 < 0 := (by omega); simp only [pAttach, pAtt1, pAtt2, e0, ↓reduceIte, Int.reduceEq, reduceCtorEq, or_true, true_or, or_false, false_or, and_true, true_and, and_false, false_and, not_true_eq_false, not_false_eq_true, decide_eq_true_eq, or_self, and_self, ite_self, Int.reduceLE]]; exact ht⟩
  ·
    refine wk_b tt_205 1 (pc' := 5) (ls' := [(0, .inr (.inr (.ref 2))), (1, .inl (a1)), (2, .inl (a2))]) (st' := [.inl (a2)]) (σ' := σ) rfl ?_
    refine wk_if tt_205 (tgt := 9) rfl rfl (by omega) (fun (h2 : 0 ≤ a2) => ?_) (fun (h2 : a2 < 0) => ?_)
    ·
      refine wk_b tt_205 3 (pc' := 14) (ls' := [(0, .inr (.inr (.ref 2))), (1, .inl (a1)), (2, .inl (a2))]) (st' := [.inl (a1), .inr (.inr (.ref 10))]) (σ' := σ) rfl ?_
      refine wk_callp (v0 := some (.inl (sx_at σ 10 200 (a1)))) (σ1 := σ) tt_205 rfl rfl rfl rfl rfl tt_5 rfl (by decide) (at_i0 z σ 10 200 (a1) rfl (by decide) (by omega)) ?_
      rw [show (sx_at σ 10 200 (a1)) = (sx_at τ 10 200 (a1)) from ag_at ht rfl _ _]
      have r3 := sx_at_R τ 10 200 (a1)
      refine wk_if tt_205 (tgt := 32) rfl rfl (by omega) (fun (h4 : ¬ (sx_at τ 10 200 (a1)) = 0) => ?_) (fun (h4 : (sx_at τ 10 200 (a1)) = 0) => ?_)
      ·
        refine wk_b tt_205 5 (pc' := 41) (ls' := [(0, .inr (.inr (.ref 2))), (1, .inl (a1)), (2, .inl (a2))]) (st' := [.inl (a1), .inr (.inr (.ref 8)), .inr (.inr (.ref 9))]) (σ' := σ) rfl ?_
        refine wk_callp (v0 := some (.inl (sx_at σ 8 200 (a1)))) (σ1 := σ) tt_205 rfl rfl rfl rfl rfl tt_5 rfl (by decide) (at_i0 z σ 8 200 (a1) rfl (by decide) (by omega)) ?_
        rw [show (sx_at σ 8 200 (a1)) = (sx_at τ 8 200 (a1)) from ag_at ht rfl _ _]
        have r5 := sx_at_R τ 8 200 (a1)
        refine wk_b tt_205 1 (pc' := 45) (ls' := [(0, .inr (.inr (.ref 2))), (1, .inl (a1)), (2, .inl (a2))]) (st' := [.inl (a2), .inl ((sx_at τ 8 200 (a1))), .inr (.inr (.ref 9))]) (σ' := σ) rfl ?_
        refine wk_callp (v0 := none) (σ1 := (sx_put σ 9 200 ((sx_at τ 8 200 (a1))) (a2))) tt_205 rfl rfl rfl rfl rfl tt_21 rfl (by decide) (pt_i0 z σ 9 200 ((sx_at τ 8 200 (a1))) (a2) rfl (by decide) (by omega)) ?_
        refine wk_b tt_205 4 (pc' := 54) (ls' := [(0, .inr (.inr (.ref 2))), (1, .inl (a1)), (2, .inl (a2))]) (st' := [.inl (a2), .inl (a1), .inr (.inr (.ref 8))]) (σ' := (sx_put σ 9 200 ((sx_at τ 8 200 (a1))) (a2))) rfl ?_
        refine wk_callp (v0 := none) (σ1 := (sx_put (sx_put σ 9 200 ((sx_at τ 8 200 (a1))) (a2)) 8 200 (a1) (a2))) tt_205 rfl rfl rfl rfl rfl tt_21 rfl (by decide) (pt_i0 z (sx_put σ 9 200 ((sx_at τ 8 200 (a1))) (a2)) 8 200 (a1) (a2) rfl (by decide) (by omega)) ?_
        refine wk_b tt_205 6 (pc' := 67) (ls' := [(0, .inr (.inr (.ref 2))), (1, .inl (a1)), (2, .inl (a2))]) (st' := [.inl (a1), .inr (.inr (.ref 10)), .inl (a1), .inr (.inr (.ref 10))]) (σ' := (sx_put (sx_put σ 9 200 ((sx_at τ 8 200 (a1))) (a2)) 8 200 (a1) (a2))) rfl ?_
        refine wk_callp (v0 := some (.inl (sx_at (sx_put (sx_put σ 9 200 ((sx_at τ 8 200 (a1))) (a2)) 8 200 (a1) (a2)) 10 200 (a1)))) (σ1 := (sx_put (sx_put σ 9 200 ((sx_at τ 8 200 (a1))) (a2)) 8 200 (a1) (a2))) tt_205 rfl rfl rfl rfl rfl tt_5 rfl (by decide) (at_i0 z (sx_put (sx_put σ 9 200 ((sx_at τ 8 200 (a1))) (a2)) 8 200 (a1) (a2)) 10 200 (a1) rfl (by decide) (by omega)) ?_
        rw [show (sx_at (sx_put (sx_put σ 9 200 ((sx_at τ 8 200 (a1))) (a2)) 8 200 (a1) (a2)) 10 200 (a1)) = (sx_at (sx_put (sx_put τ 9 200 ((sx_at τ 8 200 (a1))) (a2)) 8 200 (a1) (a2)) 10 200 (a1)) from ag_at (ag_p (ag_p ht _ _ _ _) _ _ _ _) rfl _ _]
        have r6 := sx_at_R (sx_put (sx_put τ 9 200 ((sx_at τ 8 200 (a1))) (a2)) 8 200 (a1) (a2)) 10 200 (a1)
        refine wk_b tt_205 2 (pc' := 72) (ls' := [(0, .inr (.inr (.ref 2))), (1, .inl (a1)), (2, .inl (a2))]) (st' := [.inl (((sx_at (sx_put (sx_put τ 9 200 ((sx_at τ 8 200 (a1))) (a2)) 8 200 (a1) (a2)) 10 200 (a1)) + 1)), .inl (a1), .inr (.inr (.ref 10))]) (σ' := (sx_put (sx_put σ 9 200 ((sx_at τ 8 200 (a1))) (a2)) 8 200 (a1) (a2))) rfl ?_
        refine wk_callp (v0 := none) (σ1 := (sx_put (sx_put (sx_put σ 9 200 ((sx_at τ 8 200 (a1))) (a2)) 8 200 (a1) (a2)) 10 200 (a1) (((sx_at (sx_put (sx_put τ 9 200 ((sx_at τ 8 200 (a1))) (a2)) 8 200 (a1) (a2)) 10 200 (a1)) + 1)))) tt_205 rfl rfl rfl rfl rfl tt_21 rfl (by decide) (pt_i0 z (sx_put (sx_put σ 9 200 ((sx_at τ 8 200 (a1))) (a2)) 8 200 (a1) (a2)) 10 200 (a1) (((sx_at (sx_put (sx_put τ 9 200 ((sx_at τ 8 200 (a1))) (a2)) 8 200 (a1) (a2)) 10 200 (a1)) + 1)) rfl (by decide) (by omega)) ?_
        refine wk_rV tt_205 rfl rfl ?_
        exact ⟨rfl, (sg_F_p (sg_F_p (sg_F_p (sg_F_r [7, 8, 9, 10] σ) rfl _ _ _) rfl _ _ _) rfl _ _ _), by rw [show (pAttach τ (a1) (a2)) = (sx_put (sx_put (sx_put τ 9 200 ((sx_at τ 8 200 (a1))) (a2)) 8 200 (a1) (a2)) 10 200 (a1) (((sx_at (sx_put (sx_put τ 9 200 ((sx_at τ 8 200 (a1))) (a2)) 8 200 (a1) (a2)) 10 200 (a1)) + 1))) from by have e0 : ¬ (a1 < 0 ∨ a2 < 0) := (by omega); simp only [pAttach, pAtt1, pAtt2, h4, e0, ↓reduceIte, Int.reduceEq, reduceCtorEq, or_true, true_or, or_false, false_or, and_true, true_and, and_false, false_and, not_true_eq_false, not_false_eq_true, decide_eq_true_eq, or_self, and_self, ite_self, Int.reduceLE]]; exact (ag_p (ag_p (ag_p ht _ _ _ _) _ _ _ _) _ _ _ _)⟩
      ·
        refine wk_b tt_205 4 (pc' := 26) (ls' := [(0, .inr (.inr (.ref 2))), (1, .inl (a1)), (2, .inl (a2))]) (st' := [.inl (a2), .inl (a1), .inr (.inr (.ref 7))]) (σ' := σ) rfl ?_
        refine wk_callp (v0 := none) (σ1 := (sx_put σ 7 200 (a1) (a2))) tt_205 rfl rfl rfl rfl rfl tt_21 rfl (by decide) (pt_i0 z σ 7 200 (a1) (a2) rfl (by decide) (by omega)) ?_
        refine wk_b tt_205 5 (pc' := 54) (ls' := [(0, .inr (.inr (.ref 2))), (1, .inl (a1)), (2, .inl (a2))]) (st' := [.inl (a2), .inl (a1), .inr (.inr (.ref 8))]) (σ' := (sx_put σ 7 200 (a1) (a2))) rfl ?_
        refine wk_callp (v0 := none) (σ1 := (sx_put (sx_put σ 7 200 (a1) (a2)) 8 200 (a1) (a2))) tt_205 rfl rfl rfl rfl rfl tt_21 rfl (by decide) (pt_i0 z (sx_put σ 7 200 (a1) (a2)) 8 200 (a1) (a2) rfl (by decide) (by omega)) ?_
        refine wk_b tt_205 6 (pc' := 67) (ls' := [(0, .inr (.inr (.ref 2))), (1, .inl (a1)), (2, .inl (a2))]) (st' := [.inl (a1), .inr (.inr (.ref 10)), .inl (a1), .inr (.inr (.ref 10))]) (σ' := (sx_put (sx_put σ 7 200 (a1) (a2)) 8 200 (a1) (a2))) rfl ?_
        refine wk_callp (v0 := some (.inl (sx_at (sx_put (sx_put σ 7 200 (a1) (a2)) 8 200 (a1) (a2)) 10 200 (a1)))) (σ1 := (sx_put (sx_put σ 7 200 (a1) (a2)) 8 200 (a1) (a2))) tt_205 rfl rfl rfl rfl rfl tt_5 rfl (by decide) (at_i0 z (sx_put (sx_put σ 7 200 (a1) (a2)) 8 200 (a1) (a2)) 10 200 (a1) rfl (by decide) (by omega)) ?_
        rw [show (sx_at (sx_put (sx_put σ 7 200 (a1) (a2)) 8 200 (a1) (a2)) 10 200 (a1)) = (sx_at (sx_put (sx_put τ 7 200 (a1) (a2)) 8 200 (a1) (a2)) 10 200 (a1)) from ag_at (ag_p (ag_p ht _ _ _ _) _ _ _ _) rfl _ _]
        have r7 := sx_at_R (sx_put (sx_put τ 7 200 (a1) (a2)) 8 200 (a1) (a2)) 10 200 (a1)
        refine wk_b tt_205 2 (pc' := 72) (ls' := [(0, .inr (.inr (.ref 2))), (1, .inl (a1)), (2, .inl (a2))]) (st' := [.inl (((sx_at (sx_put (sx_put τ 7 200 (a1) (a2)) 8 200 (a1) (a2)) 10 200 (a1)) + 1)), .inl (a1), .inr (.inr (.ref 10))]) (σ' := (sx_put (sx_put σ 7 200 (a1) (a2)) 8 200 (a1) (a2))) rfl ?_
        refine wk_callp (v0 := none) (σ1 := (sx_put (sx_put (sx_put σ 7 200 (a1) (a2)) 8 200 (a1) (a2)) 10 200 (a1) (((sx_at (sx_put (sx_put τ 7 200 (a1) (a2)) 8 200 (a1) (a2)) 10 200 (a1)) + 1)))) tt_205 rfl rfl rfl rfl rfl tt_21 rfl (by decide) (pt_i0 z (sx_put (sx_put σ 7 200 (a1) (a2)) 8 200 (a1) (a2)) 10 200 (a1) (((sx_at (sx_put (sx_put τ 7 200 (a1) (a2)) 8 200 (a1) (a2)) 10 200 (a1)) + 1)) rfl (by decide) (by omega)) ?_
        refine wk_rV tt_205 rfl rfl ?_
        exact ⟨rfl, (sg_F_p (sg_F_p (sg_F_p (sg_F_r [7, 8, 9, 10] σ) rfl _ _ _) rfl _ _ _) rfl _ _ _), by rw [show (pAttach τ (a1) (a2)) = (sx_put (sx_put (sx_put τ 7 200 (a1) (a2)) 8 200 (a1) (a2)) 10 200 (a1) (((sx_at (sx_put (sx_put τ 7 200 (a1) (a2)) 8 200 (a1) (a2)) 10 200 (a1)) + 1))) from by have e0 : ¬ (a1 < 0 ∨ a2 < 0) := (by omega); simp only [pAttach, pAtt1, pAtt2, h4, e0, ↓reduceIte, Int.reduceEq, reduceCtorEq, or_true, true_or, or_false, false_or, and_true, true_and, and_false, false_and, not_true_eq_false, not_false_eq_true, decide_eq_true_eq, or_self, and_self, ite_self, Int.reduceLE]]; exact (ag_p (ag_p (ag_p ht _ _ _ _) _ _ _ _) _ _ _ _)⟩
    ·
      refine wk_rV tt_205 rfl rfl ?_
      exact ⟨rfl, (sg_F_r [7, 8, 9, 10] σ), by rw [show (pAttach τ (a1) (a2)) = τ from by have e0 : a1 < 0 ∨ a2 < 0 := (by omega); simp only [pAttach, pAtt1, pAtt2, e0, ↓reduceIte, Int.reduceEq, reduceCtorEq, or_true, true_or, or_false, false_or, and_true, true_and, and_false, false_and, not_true_eq_false, not_false_eq_true, decide_eq_true_eq, or_self, and_self, ite_self, Int.reduceLE]]; exact ht⟩
-- NestedVectors$Tree.close
set_option maxRecDepth 8000 in
theorem px_cls (z : Value) (σ : sg_S) (a1 : Int) (a2 : Int) (τ : sg_S) (ht : te σ τ) (ra1 : sg_R a1) (ra2 : sg_R a2) : wx z 1 206 0 [(0, .inr (.inr (.ref 2))), (1, .inl (a1)), (2, .inl (a2))] [] σ (fun v σ' => v = none ∧ sg_F [11, 12] σ σ' ∧ te σ' (pClose τ (a1) (a2))) := by
  refine wk_b tt_206 4 (pc' := 6) (ls' := [(0, .inr (.inr (.ref 2))), (1, .inl (a1)), (2, .inl (a2))]) (st' := [.inl (a2), .inl (a1), .inr (.inr (.ref 11))]) (σ' := σ) rfl ?_
  refine wk_callp (v0 := none) (σ1 := (sx_put σ 11 200 (a1) (a2))) tt_206 rfl rfl rfl rfl rfl tt_21 rfl (by decide) (pt_i0 z σ 11 200 (a1) (a2) rfl (by decide) (by omega)) ?_
  refine wk_b tt_206 7 (pc' := 20) (ls' := [(0, .inr (.inr (.ref 2))), (1, .inl (a1)), (2, .inl (a2))]) (st' := [.inl (((sg_g (sx_put σ 11 200 (a1) (a2)) 2 16) - 1)), .inl (a1), .inr (.inr (.ref 12))]) (σ' := (sx_put σ 11 200 (a1) (a2))) rfl ?_
  have r1 := sg_Rg τ 2 16
  rw [show (sg_g (sx_put σ 11 200 (a1) (a2)) 2 16) = (sg_g τ 2 16) from by rw [sx_put_c _ _ _ _ _ _ _ (by decide), ag_g ht rfl]]
  refine wk_callp (v0 := none) (σ1 := (sx_put (sx_put σ 11 200 (a1) (a2)) 12 200 (a1) (((sg_g τ 2 16) - 1)))) tt_206 rfl rfl rfl rfl rfl tt_21 rfl (by decide) (pt_i0 z (sx_put σ 11 200 (a1) (a2)) 12 200 (a1) (((sg_g τ 2 16) - 1)) rfl (by decide) (by omega)) ?_
  refine wk_rV tt_206 rfl rfl ?_
  exact ⟨rfl, (sg_F_p (sg_F_p (sg_F_r [11, 12] σ) rfl _ _ _) rfl _ _ _), (ag_p (ag_p ht _ _ _ _) _ _ _ _)⟩
-- NestedVectors$Parser.both
set_option maxRecDepth 8000 in
theorem px_both (z : Value) (σ : sg_S) (a1 : Int) (a2 : Int) (a3 : Int) (τ : sg_S) (ht : te σ τ) (ra1 : sg_R a1) (ra2 : sg_R a2) (ra3 : sg_R a3) : wx z 2 168 0 [(0, .inr (.inr (.ref 35))), (1, .inl (a1)), (2, .inl (a2)), (3, .inl (a3))] [] σ (fun v σ' => v = some (.inl (a1)) ∧ sg_F [7, 8, 9, 10, 11, 12] σ σ' ∧ te σ' (pBoth τ (a1) (a2) (a3))) := by
  refine wk_b tt_168 4 (pc' := 6) (ls' := [(0, .inr (.inr (.ref 35))), (1, .inl (a1)), (2, .inl (a2)), (3, .inl (a3))]) (st' := [.inl (a2), .inl (a1), .inr (.inr (.ref 2))]) (σ' := σ) rfl ?_
  refine wk_call tt_168 rfl rfl rfl rfl rfl tt_205 rfl (by decide) (px_att z σ (a1) (a2) τ ht (by first | omega | exact sg_Rg _ _ _) (by first | omega | exact sg_Rg _ _ _)) (fun w1 σ2 hq3 => ?_)
  obtain ⟨rfl, hF4, ht5⟩ := hq3
  refine wk_b tt_168 4 (pc' := 15) (ls' := [(0, .inr (.inr (.ref 35))), (1, .inl (a1)), (2, .inl (a2)), (3, .inl (a3))]) (st' := [.inl (a3), .inl (a1), .inr (.inr (.ref 2))]) (σ' := σ2) rfl ?_
  refine wk_call tt_168 rfl rfl rfl rfl rfl tt_205 rfl (by decide) (px_att z σ2 (a1) (a3) (pAttach τ (a1) (a2)) ht5 (by first | omega | exact sg_Rg _ _ _) (by first | omega | exact sg_Rg _ _ _)) (fun w6 σ7 hq8 => ?_)
  obtain ⟨rfl, hF9, ht10⟩ := hq8
  refine wk_b tt_168 7 (pc' := 31) (ls' := [(0, .inr (.inr (.ref 35))), (1, .inl (a1)), (2, .inl (a2)), (3, .inl (a3))]) (st' := [.inl (a2), .inr (.inr (.ref 11)), .inl (a1), .inr (.inr (.ref 2))]) (σ' := σ7) rfl ?_
  refine wk_callp (v0 := some (.inl (sx_at σ7 11 200 (a2)))) (σ1 := σ7) tt_168 rfl rfl rfl rfl rfl tt_5 rfl (by decide) (at_i0 z σ7 11 200 (a2) rfl (by decide) (by omega)) ?_
  rw [show (sx_at σ7 11 200 (a2)) = (sx_at (pAttach (pAttach τ (a1) (a2)) (a1) (a3)) 11 200 (a2)) from ag_at ht10 rfl _ _]
  have r11 := sx_at_R (pAttach (pAttach τ (a1) (a2)) (a1) (a3)) 11 200 (a2)
  refine wk_call tt_168 rfl rfl rfl rfl rfl tt_206 rfl (by decide) (px_cls z σ7 (a1) ((sx_at (pAttach (pAttach τ (a1) (a2)) (a1) (a3)) 11 200 (a2))) (pAttach (pAttach τ (a1) (a2)) (a1) (a3)) ht10 (by first | omega | exact sg_Rg _ _ _) (by first | omega | exact sg_Rg _ _ _)) (fun w12 σ13 hq14 => ?_)
  obtain ⟨rfl, hF15, ht16⟩ := hq14
  refine wk_b tt_168 1 (pc' := 38) (ls' := [(0, .inr (.inr (.ref 35))), (1, .inl (a1)), (2, .inl (a2)), (3, .inl (a3))]) (st' := [.inl (a1)]) (σ' := σ13) rfl ?_
  refine wk_rI tt_168 rfl rfl ?_
  exact ⟨rfl, (sg_F_t (sg_F_t (sg_F_t (sg_F_r [7, 8, 9, 10, 11, 12] σ) (sg_F_m (L := [7, 8, 9, 10, 11, 12]) hF4 rfl)) (sg_F_m (L := [7, 8, 9, 10, 11, 12]) hF9 rfl)) (sg_F_m (L := [7, 8, 9, 10, 11, 12]) hF15 rfl)), ht16⟩
