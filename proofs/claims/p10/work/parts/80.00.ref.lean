/-! Conditions of the reference's methods, by program (0). -/
-- NestedVectorsModel.in
def v_in  (a0 : Int) (a1 : Int) (a2 : Int) : Int := (if a0 < a1 then (0 : Int) else (if a2 < a0 then (0 : Int) else (1 : Int)))
theorem vz_in  {a0 : Int} {a1 : Int} {a2 : Int} : v_in a0 a1 a2 = 0 ∨ v_in a0 a1 a2 = 1 := by
  unfold v_in
  by_cases h : a0 < a1
  · rw [if_pos h]
    exact Or.inl rfl
  · rw [if_neg h]
    by_cases h : a2 < a0
    · rw [if_pos h]
      exact Or.inl rfl
    · rw [if_neg h]
      exact Or.inr rfl
set_option maxHeartbeats 4000000 in
set_option maxRecDepth 8000 in
theorem w_in (z : Value) (σ : sg_S) (a0 : Int) (a1 : Int) (a2 : Int) (ra0 : sg_RL a0) (ra1 : sg_RL a1) (ra2 : sg_RL a2) : wx z 0 258 0 [(0, .inr (.inl (a0))), (2, .inr (.inl (a1))), (4, .inr (.inl (a2)))] [] σ (fun v σ' => v = some (.inl (v_in a0 a1 a2)) ∧ σ' = σ) := by
  refine wk_b tt_258 2 (pc' := 2) (ls' := [(0, .inr (.inl (a0))), (2, .inr (.inl (a1))), (4, .inr (.inl (a2)))]) (st' := [.inr (.inl (a1)), .inr (.inl (a0))]) (σ' := σ) rfl ?_
  refine wk_lcif tt_258 (tgt := 17) rfl rfl rfl ra0 ra1 (fun (h1 : a0 < a1) => ?_) (fun (h1 : a1 ≤ a0) => ?_)
  ·
    refine wk_b tt_258 1 (pc' := 18) (ls' := [(0, .inr (.inl (a0))), (2, .inr (.inl (a1))), (4, .inr (.inl (a2)))]) (st' := [.inl (0)]) (σ' := σ) rfl ?_
    exact wk_rZ tt_258 rfl rfl (by decide) ⟨by rw [v_in, if_pos h1], rfl⟩
  ·
    refine wk_b tt_258 2 (pc' := 9) (ls' := [(0, .inr (.inl (a0))), (2, .inr (.inl (a1))), (4, .inr (.inl (a2)))]) (st' := [.inr (.inl (a2)), .inr (.inl (a0))]) (σ' := σ) rfl ?_
    refine wk_lcif tt_258 (tgt := 17) rfl rfl rfl ra0 ra2 (fun (h2 : a2 < a0) => ?_) (fun (h2 : a0 ≤ a2) => ?_)
    ·
      refine wk_b tt_258 1 (pc' := 18) (ls' := [(0, .inr (.inl (a0))), (2, .inr (.inl (a1))), (4, .inr (.inl (a2)))]) (st' := [.inl (0)]) (σ' := σ) rfl ?_
      exact wk_rZ tt_258 rfl rfl (by decide) ⟨by rw [v_in, if_neg (show ¬ (a0 < a1) by omega), if_pos h2], rfl⟩
    ·
      refine wk_b tt_258 2 (pc' := 18) (ls' := [(0, .inr (.inl (a0))), (2, .inr (.inl (a1))), (4, .inr (.inl (a2)))]) (st' := [.inl (1)]) (σ' := σ) rfl ?_
      exact wk_rZ tt_258 rfl rfl (by decide) ⟨by rw [v_in, if_neg (show ¬ (a0 < a1) by omega), if_neg (show ¬ (a2 < a0) by omega)], rfl⟩
-- NestedVectorsModel.about
def V_about (σ : sg_S) (a1 : Int) (Q : Int → sg_S → Prop) : Prop := ∀ σ1, σ1 = (sg_w σ 88 0 (0)) → ((¬ (v_in (a1) (0) (3)) = 0 → ((¬ a1 = 3 → ((¬ (sg_g σ 88 28) = 0 → ((¬ a1 = 0 → ((¬ a1 = 1 → (0 ≤ (sg_g σ 88 27) ∧ (sg_g σ 88 27) < 210) ∧ Q ((sg_g σ 101 ((sg_g σ 88 27)))) σ1) ∧ (a1 = 1 → Q ((sg_g σ 88 19)) σ1))) ∧ (a1 = 0 → Q ((sg_g σ 88 8)) σ1))) ∧ ((sg_g σ 88 28) = 0 → Q ((-4)) σ1))) ∧ (a1 = 3 → Q ((sg_g σ 88 2)) σ1))) ∧ ((v_in (a1) (0) (3)) = 0 → Q ((-2)) σ1))
set_option maxHeartbeats 4000000 in
set_option maxRecDepth 8000 in
theorem w_about (z : Value) (σ : sg_S) (a1 : Int) (Q : Int → sg_S → Prop) (ra1 : sg_R a1) (w : V_about σ a1 Q) : wx z 1 209 0 [(0, .inr (.inr (.ref 88))), (1, .inl (a1))] [] σ (fun v σ' => ∃ q, v = some (.inl q) ∧ sg_R q ∧ sg_F [1088] σ σ' ∧ Q q σ') := by
  unfold V_about at w
  refine wk_b tt_209 3 (pc' := 5) (ls' := [(0, .inr (.inr (.ref 88))), (1, .inl (a1))]) (st' := []) (σ' := (sg_w σ 88 0 (0))) rfl ?_
  generalize hs2 : (sg_w σ 88 0 (0)) = σ1
  have w := w σ1 hs2.symm
  have hF3 : sg_F [1088] σ σ1 := by rw [← hs2]; exact sg_F_w (sg_F_r _ _) rfl _
  refine wk_b tt_209 4 (pc' := 11) (ls' := [(0, .inr (.inr (.ref 88))), (1, .inl (a1))]) (st' := [.inr (.inl (3)), .inr (.inl (0)), .inr (.inl ((sg_n (a1))))]) (σ' := σ1) rfl ?_
  rw [show (sg_n (a1)) = a1 from by rw [sg_id ra1]]
  refine wk_callp tt_209 rfl rfl rfl rfl rfl tt_258 rfl (by decide) (w_in z σ1 (a1) (0) (3) (sg_Rgl2 ra1) (by decide) (by decide) ) ?_
  refine wk_if tt_209 (tgt := 20) rfl rfl (sg_Rz (vz_in ..)) (fun (h4 : ¬ (v_in (a1) (0) (3)) = 0) => ?_) (fun (h4 : (v_in (a1) (0) (3)) = 0) => ?_)
  ·
    have w := w.1 h4
    refine wk_b tt_209 2 (pc' := 22) (ls' := [(0, .inr (.inr (.ref 88))), (1, .inl (a1))]) (st' := [.inl (3), .inl (a1)]) (σ' := σ1) rfl ?_
    refine wk_if2 tt_209 (tgt := 32) rfl rfl ra1 (by decide) (fun (h5 : ¬ a1 = 3) => ?_) (fun (h5 : a1 = 3) => ?_)
    ·
      have w := w.1 h5
      refine wk_b tt_209 2 (pc' := 36) (ls' := [(0, .inr (.inr (.ref 88))), (1, .inl (a1))]) (st' := [.inl ((sg_g σ1 88 28))]) (σ' := σ1) rfl ?_
      rw [show (sg_g σ1 88 28) = (sg_g σ 88 28) from by rw [sg_F_g hF3 rfl]]
      refine wk_if tt_209 (tgt := 44) rfl rfl (sg_Rg _ _ _) (fun (h6 : ¬ (sg_g σ 88 28) = 0) => ?_) (fun (h6 : (sg_g σ 88 28) = 0) => ?_)
      ·
        have w := w.1 h6
        refine wk_b tt_209 1 (pc' := 45) (ls' := [(0, .inr (.inr (.ref 88))), (1, .inl (a1))]) (st' := [.inl (a1)]) (σ' := σ1) rfl ?_
        refine wk_if tt_209 (tgt := 55) rfl rfl ra1 (fun (h7 : ¬ a1 = 0) => ?_) (fun (h7 : a1 = 0) => ?_)
        ·
          have w := w.1 h7
          refine wk_b tt_209 2 (pc' := 57) (ls' := [(0, .inr (.inr (.ref 88))), (1, .inl (a1))]) (st' := [.inl (1), .inl (a1)]) (σ' := σ1) rfl ?_
          refine wk_if2 tt_209 (tgt := 67) rfl rfl ra1 (by decide) (fun (h8 : ¬ a1 = 1) => ?_) (fun (h8 : a1 = 1) => ?_)
          ·
            have w := w.1 h8
            refine wk_b tt_209 4 (pc' := 75) (ls' := [(0, .inr (.inr (.ref 88))), (1, .inl (a1))]) (st' := [.inl ((sg_g σ1 88 27)), .inr (.inr (.ref 101))]) (σ' := σ1) rfl ?_
            rw [show (sg_g σ1 88 27) = (sg_g σ 88 27) from by rw [sg_F_g hF3 rfl]]
            obtain ⟨c9, w⟩ := w
            refine wk_ia tt_209 rfl rfl c9.1 c9.2 (sg_Rg _ _ _) ?_
            rw [show (sg_g σ1 101 ((sg_g σ 88 27))) = (sg_g σ 101 ((sg_g σ 88 27))) from by rw [sg_F_ga hF3 rfl]]
            exact wk_rI tt_209 rfl rfl ⟨_, rfl, (sg_Rg _ _ _), (sg_F_t (sg_F_r [1088] σ) (sg_F_m (L := [1088]) hF3 rfl)), w⟩
          ·
            have w := w.2 h8
            refine wk_b tt_209 3 (pc' := 76) (ls' := [(0, .inr (.inr (.ref 88))), (1, .inl (a1))]) (st' := [.inl ((sg_g σ1 88 19))]) (σ' := σ1) rfl ?_
            rw [show (sg_g σ1 88 19) = (sg_g σ 88 19) from by rw [sg_F_g hF3 rfl]]
            exact wk_rI tt_209 rfl rfl ⟨_, rfl, (sg_Rg _ _ _), (sg_F_t (sg_F_r [1088] σ) (sg_F_m (L := [1088]) hF3 rfl)), w⟩
        ·
          have w := w.2 h7
          refine wk_b tt_209 3 (pc' := 76) (ls' := [(0, .inr (.inr (.ref 88))), (1, .inl (a1))]) (st' := [.inl ((sg_g σ1 88 8))]) (σ' := σ1) rfl ?_
          rw [show (sg_g σ1 88 8) = (sg_g σ 88 8) from by rw [sg_F_g hF3 rfl]]
          exact wk_rI tt_209 rfl rfl ⟨_, rfl, (sg_Rg _ _ _), (sg_F_t (sg_F_r [1088] σ) (sg_F_m (L := [1088]) hF3 rfl)), w⟩
      ·
        have w := w.2 h6
        refine wk_b tt_209 2 (pc' := 76) (ls' := [(0, .inr (.inr (.ref 88))), (1, .inl (a1))]) (st' := [.inl ((-4))]) (σ' := σ1) rfl ?_
        exact wk_rI tt_209 rfl rfl ⟨_, rfl, (by decide), (sg_F_t (sg_F_r [1088] σ) (sg_F_m (L := [1088]) hF3 rfl)), w⟩
    ·
      have w := w.2 h5
      refine wk_b tt_209 3 (pc' := 76) (ls' := [(0, .inr (.inr (.ref 88))), (1, .inl (a1))]) (st' := [.inl ((sg_g σ1 88 2))]) (σ' := σ1) rfl ?_
      rw [show (sg_g σ1 88 2) = (sg_g σ 88 2) from by rw [sg_F_g hF3 rfl]]
      exact wk_rI tt_209 rfl rfl ⟨_, rfl, (sg_Rg _ _ _), (sg_F_t (sg_F_r [1088] σ) (sg_F_m (L := [1088]) hF3 rfl)), w⟩
  ·
    have w := w.2 h4
    refine wk_b tt_209 1 (pc' := 19) (ls' := [(0, .inr (.inr (.ref 88))), (1, .inl (a1))]) (st' := [.inl ((-2))]) (σ' := σ1) rfl ?_
    exact wk_rI tt_209 rfl rfl ⟨_, rfl, (by decide), (sg_F_t (sg_F_r [1088] σ) (sg_F_m (L := [1088]) hF3 rfl)), w⟩
-- NestedVectorsModel.letterOf
def v_letterOf  (a0 : Int) (a1 : Int) : Int := ((sg_l (((sg_l (a0) >>> ((sg_i (a1)).toInt64 &&& 63)).toInt)) &&& sg_l (255)).toInt)
def p_letterOf  (a0 : Int) (a1 : Int) : Prop := sg_R (((sg_l (((sg_l (a0) >>> ((sg_i (a1)).toInt64 &&& 63)).toInt)) &&& sg_l (255)).toInt)) ∧ True
set_option maxHeartbeats 4000000 in
set_option maxRecDepth 8000 in
theorem w_letterOf (z : Value) (σ : sg_S) (a0 : Int) (a1 : Int) (ra0 : sg_RL a0) (ra1 : sg_R a1) (w : p_letterOf a0 a1) : wx z 0 279 0 [(0, .inr (.inl (a0))), (2, .inl (a1))] [] σ (fun v σ' => v = some (.inl (v_letterOf a0 a1)) ∧ σ' = σ) := by
  unfold p_letterOf at w
  obtain ⟨c1, w⟩ := w
  refine wk_b tt_279 6 (pc' := 8) (ls' := [(0, .inr (.inl (a0))), (2, .inl (a1))]) (st' := [.inl (((sg_l (((sg_l (a0) >>> ((sg_i (a1)).toInt64 &&& 63)).toInt)) &&& sg_l (255)).toInt))]) (σ' := σ) rfl ?_
  exact wk_rI tt_279 rfl rfl ⟨by rw [v_letterOf], rfl⟩
theorem vr_letterOf  (a0 : Int) (a1 : Int) (ra0 : sg_RL a0) (ra1 : sg_R a1) (w : p_letterOf a0 a1) : sg_R (v_letterOf a0 a1) := by
  unfold v_letterOf
  unfold p_letterOf at w
  first | exact w.1 | exact w.2.1 | exact w.2.2.1 | exact sg_Rg _ _ _ | exact sg_Rgl _ _ _ | exact sg_Rr _ | exact sg_RLr _ | assumption | omega | (constructor <;> omega)
-- told
set_option maxHeartbeats 4000000 in
set_option maxRecDepth 8000 in
theorem w_told_1768911969 (z : Value) (σ : sg_S) : wx z 2 332 0 [(0, .inr (.inl (1768911969)))] [] σ (fun v σ' => v = some (.inr (.inl (600801))) ∧ σ' = σ) := by
  refine wk_b tt_332 5 (pc' := 8) (ls' := [(4, .inl (56)), (2, .inr (.inl (0))), (0, .inr (.inl (1768911969)))]) (st' := [.inl (56)]) (σ' := σ) rfl ?_
  refine wk_if tt_332 (tgt := 48) rfl rfl (by decide) (fun (h : 56 < 0) => absurd h (by decide)) (fun _ => ?_)
  refine wk_b tt_332 2 (pc' := 14) (ls' := [(4, .inl (56)), (2, .inr (.inl (0))), (0, .inr (.inl (1768911969)))]) (st' := [.inl (56), .inr (.inl (1768911969))]) (σ' := σ) rfl ?_
  obtain ⟨c0, _⟩ : p_letterOf (1768911969) (56) := ⟨by decide, trivial⟩
  refine wk_callp tt_332 rfl rfl rfl rfl rfl tt_279 rfl (by decide) (w_letterOf z σ (1768911969) (56) (by decide) (by decide) ⟨c0, trivial⟩) ?_
  rw [show (v_letterOf (1768911969) (56)) = 0 from by decide]
  refine wk_b tt_332 2 (pc' := 21) (ls' := [(5, .inl (0)), (4, .inl (56)), (2, .inr (.inl (0))), (0, .inr (.inl (1768911969)))]) (st' := [.inl (0)]) (σ' := σ) rfl ?_
  refine wk_if tt_332 (tgt := 28) rfl rfl (by decide) (fun (h : ¬ 0 = 0) => absurd h (by decide)) (fun _ => ?_)
  refine wk_b tt_332 6 (pc' := 8) (ls' := [(4, .inl (48)), (2, .inr (.inl (0))), (5, .inl (0)), (0, .inr (.inl (1768911969)))]) (st' := [.inl (48)]) (σ' := σ) rfl ?_
  refine wk_if tt_332 (tgt := 48) rfl rfl (by decide) (fun (h : 48 < 0) => absurd h (by decide)) (fun _ => ?_)
  refine wk_b tt_332 2 (pc' := 14) (ls' := [(4, .inl (48)), (2, .inr (.inl (0))), (5, .inl (0)), (0, .inr (.inl (1768911969)))]) (st' := [.inl (48), .inr (.inl (1768911969))]) (σ' := σ) rfl ?_
  obtain ⟨c0, _⟩ : p_letterOf (1768911969) (48) := ⟨by decide, trivial⟩
  refine wk_callp tt_332 rfl rfl rfl rfl rfl tt_279 rfl (by decide) (w_letterOf z σ (1768911969) (48) (by decide) (by decide) ⟨c0, trivial⟩) ?_
  rw [show (v_letterOf (1768911969) (48)) = 0 from by decide]
  refine wk_b tt_332 2 (pc' := 21) (ls' := [(5, .inl (0)), (4, .inl (48)), (2, .inr (.inl (0))), (0, .inr (.inl (1768911969)))]) (st' := [.inl (0)]) (σ' := σ) rfl ?_
  refine wk_if tt_332 (tgt := 28) rfl rfl (by decide) (fun (h : ¬ 0 = 0) => absurd h (by decide)) (fun _ => ?_)
  refine wk_b tt_332 6 (pc' := 8) (ls' := [(4, .inl (40)), (2, .inr (.inl (0))), (5, .inl (0)), (0, .inr (.inl (1768911969)))]) (st' := [.inl (40)]) (σ' := σ) rfl ?_
  refine wk_if tt_332 (tgt := 48) rfl rfl (by decide) (fun (h : 40 < 0) => absurd h (by decide)) (fun _ => ?_)
  refine wk_b tt_332 2 (pc' := 14) (ls' := [(4, .inl (40)), (2, .inr (.inl (0))), (5, .inl (0)), (0, .inr (.inl (1768911969)))]) (st' := [.inl (40), .inr (.inl (1768911969))]) (σ' := σ) rfl ?_
  obtain ⟨c0, _⟩ : p_letterOf (1768911969) (40) := ⟨by decide, trivial⟩
  refine wk_callp tt_332 rfl rfl rfl rfl rfl tt_279 rfl (by decide) (w_letterOf z σ (1768911969) (40) (by decide) (by decide) ⟨c0, trivial⟩) ?_
  rw [show (v_letterOf (1768911969) (40)) = 0 from by decide]
  refine wk_b tt_332 2 (pc' := 21) (ls' := [(5, .inl (0)), (4, .inl (40)), (2, .inr (.inl (0))), (0, .inr (.inl (1768911969)))]) (st' := [.inl (0)]) (σ' := σ) rfl ?_
  refine wk_if tt_332 (tgt := 28) rfl rfl (by decide) (fun (h : ¬ 0 = 0) => absurd h (by decide)) (fun _ => ?_)
  refine wk_b tt_332 6 (pc' := 8) (ls' := [(4, .inl (32)), (2, .inr (.inl (0))), (5, .inl (0)), (0, .inr (.inl (1768911969)))]) (st' := [.inl (32)]) (σ' := σ) rfl ?_
  refine wk_if tt_332 (tgt := 48) rfl rfl (by decide) (fun (h : 32 < 0) => absurd h (by decide)) (fun _ => ?_)
  refine wk_b tt_332 2 (pc' := 14) (ls' := [(4, .inl (32)), (2, .inr (.inl (0))), (5, .inl (0)), (0, .inr (.inl (1768911969)))]) (st' := [.inl (32), .inr (.inl (1768911969))]) (σ' := σ) rfl ?_
  obtain ⟨c0, _⟩ : p_letterOf (1768911969) (32) := ⟨by decide, trivial⟩
  refine wk_callp tt_332 rfl rfl rfl rfl rfl tt_279 rfl (by decide) (w_letterOf z σ (1768911969) (32) (by decide) (by decide) ⟨c0, trivial⟩) ?_
  rw [show (v_letterOf (1768911969) (32)) = 0 from by decide]
  refine wk_b tt_332 2 (pc' := 21) (ls' := [(5, .inl (0)), (4, .inl (32)), (2, .inr (.inl (0))), (0, .inr (.inl (1768911969)))]) (st' := [.inl (0)]) (σ' := σ) rfl ?_
  refine wk_if tt_332 (tgt := 28) rfl rfl (by decide) (fun (h : ¬ 0 = 0) => absurd h (by decide)) (fun _ => ?_)
  refine wk_b tt_332 6 (pc' := 8) (ls' := [(4, .inl (24)), (2, .inr (.inl (0))), (5, .inl (0)), (0, .inr (.inl (1768911969)))]) (st' := [.inl (24)]) (σ' := σ) rfl ?_
  refine wk_if tt_332 (tgt := 48) rfl rfl (by decide) (fun (h : 24 < 0) => absurd h (by decide)) (fun _ => ?_)
  refine wk_b tt_332 2 (pc' := 14) (ls' := [(4, .inl (24)), (2, .inr (.inl (0))), (5, .inl (0)), (0, .inr (.inl (1768911969)))]) (st' := [.inl (24), .inr (.inl (1768911969))]) (σ' := σ) rfl ?_
  obtain ⟨c0, _⟩ : p_letterOf (1768911969) (24) := ⟨by decide, trivial⟩
  refine wk_callp tt_332 rfl rfl rfl rfl rfl tt_279 rfl (by decide) (w_letterOf z σ (1768911969) (24) (by decide) (by decide) ⟨c0, trivial⟩) ?_
  rw [show (v_letterOf (1768911969) (24)) = 105 from by decide]
  refine wk_b tt_332 2 (pc' := 21) (ls' := [(5, .inl (105)), (4, .inl (24)), (2, .inr (.inl (0))), (0, .inr (.inl (1768911969)))]) (st' := [.inl (105)]) (σ' := σ) rfl ?_
  refine wk_if tt_332 (tgt := 28) rfl rfl (by decide) (fun _ => ?_) (fun (h : 105 = 0) => absurd h (by decide))
  refine wk_b tt_332 12 (pc' := 8) (ls' := [(4, .inl (16)), (2, .inr (.inl ((((40 * 0) + (sg_n (105))) - 96)))), (5, .inl (105)), (0, .inr (.inl (1768911969)))]) (st' := [.inl (16)]) (σ' := σ) rfl ?_
  rw [show (sg_n (105)) = 105 from by rw [sg_id (by decide)]]
  show wx z 2 332 8 [(4, .inl (16)), (2, .inr (.inl (9))), (5, .inl (105)), (0, .inr (.inl (1768911969)))] [.inl (16)] σ (fun v σ' => v = some (.inr (.inl (600801))) ∧ σ' = σ)
  refine wk_if tt_332 (tgt := 48) rfl rfl (by decide) (fun (h : 16 < 0) => absurd h (by decide)) (fun _ => ?_)
  refine wk_b tt_332 2 (pc' := 14) (ls' := [(4, .inl (16)), (2, .inr (.inl (9))), (5, .inl (105)), (0, .inr (.inl (1768911969)))]) (st' := [.inl (16), .inr (.inl (1768911969))]) (σ' := σ) rfl ?_
  obtain ⟨c0, _⟩ : p_letterOf (1768911969) (16) := ⟨by decide, trivial⟩
  refine wk_callp tt_332 rfl rfl rfl rfl rfl tt_279 rfl (by decide) (w_letterOf z σ (1768911969) (16) (by decide) (by decide) ⟨c0, trivial⟩) ?_
  rw [show (v_letterOf (1768911969) (16)) = 111 from by decide]
  refine wk_b tt_332 2 (pc' := 21) (ls' := [(5, .inl (111)), (4, .inl (16)), (2, .inr (.inl (9))), (0, .inr (.inl (1768911969)))]) (st' := [.inl (111)]) (σ' := σ) rfl ?_
  refine wk_if tt_332 (tgt := 28) rfl rfl (by decide) (fun _ => ?_) (fun (h : 111 = 0) => absurd h (by decide))
  refine wk_b tt_332 12 (pc' := 8) (ls' := [(4, .inl (8)), (2, .inr (.inl ((((40 * 9) + (sg_n (111))) - 96)))), (5, .inl (111)), (0, .inr (.inl (1768911969)))]) (st' := [.inl (8)]) (σ' := σ) rfl ?_
  rw [show (sg_n (111)) = 111 from by rw [sg_id (by decide)]]
  show wx z 2 332 8 [(4, .inl (8)), (2, .inr (.inl (375))), (5, .inl (111)), (0, .inr (.inl (1768911969)))] [.inl (8)] σ (fun v σ' => v = some (.inr (.inl (600801))) ∧ σ' = σ)
  refine wk_if tt_332 (tgt := 48) rfl rfl (by decide) (fun (h : 8 < 0) => absurd h (by decide)) (fun _ => ?_)
  refine wk_b tt_332 2 (pc' := 14) (ls' := [(4, .inl (8)), (2, .inr (.inl (375))), (5, .inl (111)), (0, .inr (.inl (1768911969)))]) (st' := [.inl (8), .inr (.inl (1768911969))]) (σ' := σ) rfl ?_
  obtain ⟨c0, _⟩ : p_letterOf (1768911969) (8) := ⟨by decide, trivial⟩
  refine wk_callp tt_332 rfl rfl rfl rfl rfl tt_279 rfl (by decide) (w_letterOf z σ (1768911969) (8) (by decide) (by decide) ⟨c0, trivial⟩) ?_
  rw [show (v_letterOf (1768911969) (8)) = 116 from by decide]
  refine wk_b tt_332 2 (pc' := 21) (ls' := [(5, .inl (116)), (4, .inl (8)), (2, .inr (.inl (375))), (0, .inr (.inl (1768911969)))]) (st' := [.inl (116)]) (σ' := σ) rfl ?_
  refine wk_if tt_332 (tgt := 28) rfl rfl (by decide) (fun _ => ?_) (fun (h : 116 = 0) => absurd h (by decide))
  refine wk_b tt_332 12 (pc' := 8) (ls' := [(4, .inl (0)), (2, .inr (.inl ((((40 * 375) + (sg_n (116))) - 96)))), (5, .inl (116)), (0, .inr (.inl (1768911969)))]) (st' := [.inl (0)]) (σ' := σ) rfl ?_
  rw [show (sg_n (116)) = 116 from by rw [sg_id (by decide)]]
  show wx z 2 332 8 [(4, .inl (0)), (2, .inr (.inl (15020))), (5, .inl (116)), (0, .inr (.inl (1768911969)))] [.inl (0)] σ (fun v σ' => v = some (.inr (.inl (600801))) ∧ σ' = σ)
  refine wk_if tt_332 (tgt := 48) rfl rfl (by decide) (fun (h : 0 < 0) => absurd h (by decide)) (fun _ => ?_)
  refine wk_b tt_332 2 (pc' := 14) (ls' := [(4, .inl (0)), (2, .inr (.inl (15020))), (5, .inl (116)), (0, .inr (.inl (1768911969)))]) (st' := [.inl (0), .inr (.inl (1768911969))]) (σ' := σ) rfl ?_
  obtain ⟨c0, _⟩ : p_letterOf (1768911969) (0) := ⟨by decide, trivial⟩
  refine wk_callp tt_332 rfl rfl rfl rfl rfl tt_279 rfl (by decide) (w_letterOf z σ (1768911969) (0) (by decide) (by decide) ⟨c0, trivial⟩) ?_
  rw [show (v_letterOf (1768911969) (0)) = 97 from by decide]
  refine wk_b tt_332 2 (pc' := 21) (ls' := [(5, .inl (97)), (4, .inl (0)), (2, .inr (.inl (15020))), (0, .inr (.inl (1768911969)))]) (st' := [.inl (97)]) (σ' := σ) rfl ?_
  refine wk_if tt_332 (tgt := 28) rfl rfl (by decide) (fun _ => ?_) (fun (h : 97 = 0) => absurd h (by decide))
  refine wk_b tt_332 12 (pc' := 8) (ls' := [(4, .inl ((-8))), (2, .inr (.inl ((((40 * 15020) + (sg_n (97))) - 96)))), (5, .inl (97)), (0, .inr (.inl (1768911969)))]) (st' := [.inl ((-8))]) (σ' := σ) rfl ?_
  rw [show (sg_n (97)) = 97 from by rw [sg_id (by decide)]]
  show wx z 2 332 8 [(4, .inl ((-8))), (2, .inr (.inl (600801))), (5, .inl (97)), (0, .inr (.inl (1768911969)))] [.inl ((-8))] σ (fun v σ' => v = some (.inr (.inl (600801))) ∧ σ' = σ)
  refine wk_if tt_332 (tgt := 48) rfl rfl (by decide) (fun _ => ?_) (fun (h : 0 ≤ (-8)) => absurd h (by decide))
  refine wk_b tt_332 1 (pc' := 49) (ls' := [(4, .inl ((-8))), (2, .inr (.inl (600801))), (5, .inl (97)), (0, .inr (.inl (1768911969)))]) (st' := [.inr (.inl (600801))]) (σ' := σ) rfl ?_
  exact wk_rL tt_332 rfl rfl ⟨rfl, rfl⟩
-- told
set_option maxHeartbeats 4000000 in
set_option maxRecDepth 8000 in
theorem w_told_1684632436 (z : Value) (σ : sg_S) : wx z 2 332 0 [(0, .inr (.inl (1684632436)))] [] σ (fun v σ' => v = some (.inr (.inl (271180))) ∧ σ' = σ) := by
  refine wk_b tt_332 5 (pc' := 8) (ls' := [(4, .inl (56)), (2, .inr (.inl (0))), (0, .inr (.inl (1684632436)))]) (st' := [.inl (56)]) (σ' := σ) rfl ?_
  refine wk_if tt_332 (tgt := 48) rfl rfl (by decide) (fun (h : 56 < 0) => absurd h (by decide)) (fun _ => ?_)
  refine wk_b tt_332 2 (pc' := 14) (ls' := [(4, .inl (56)), (2, .inr (.inl (0))), (0, .inr (.inl (1684632436)))]) (st' := [.inl (56), .inr (.inl (1684632436))]) (σ' := σ) rfl ?_
  obtain ⟨c0, _⟩ : p_letterOf (1684632436) (56) := ⟨by decide, trivial⟩
  refine wk_callp tt_332 rfl rfl rfl rfl rfl tt_279 rfl (by decide) (w_letterOf z σ (1684632436) (56) (by decide) (by decide) ⟨c0, trivial⟩) ?_
  rw [show (v_letterOf (1684632436) (56)) = 0 from by decide]
  refine wk_b tt_332 2 (pc' := 21) (ls' := [(5, .inl (0)), (4, .inl (56)), (2, .inr (.inl (0))), (0, .inr (.inl (1684632436)))]) (st' := [.inl (0)]) (σ' := σ) rfl ?_
  refine wk_if tt_332 (tgt := 28) rfl rfl (by decide) (fun (h : ¬ 0 = 0) => absurd h (by decide)) (fun _ => ?_)
  refine wk_b tt_332 6 (pc' := 8) (ls' := [(4, .inl (48)), (2, .inr (.inl (0))), (5, .inl (0)), (0, .inr (.inl (1684632436)))]) (st' := [.inl (48)]) (σ' := σ) rfl ?_
  refine wk_if tt_332 (tgt := 48) rfl rfl (by decide) (fun (h : 48 < 0) => absurd h (by decide)) (fun _ => ?_)
  refine wk_b tt_332 2 (pc' := 14) (ls' := [(4, .inl (48)), (2, .inr (.inl (0))), (5, .inl (0)), (0, .inr (.inl (1684632436)))]) (st' := [.inl (48), .inr (.inl (1684632436))]) (σ' := σ) rfl ?_
  obtain ⟨c0, _⟩ : p_letterOf (1684632436) (48) := ⟨by decide, trivial⟩
  refine wk_callp tt_332 rfl rfl rfl rfl rfl tt_279 rfl (by decide) (w_letterOf z σ (1684632436) (48) (by decide) (by decide) ⟨c0, trivial⟩) ?_
  rw [show (v_letterOf (1684632436) (48)) = 0 from by decide]
  refine wk_b tt_332 2 (pc' := 21) (ls' := [(5, .inl (0)), (4, .inl (48)), (2, .inr (.inl (0))), (0, .inr (.inl (1684632436)))]) (st' := [.inl (0)]) (σ' := σ) rfl ?_
  refine wk_if tt_332 (tgt := 28) rfl rfl (by decide) (fun (h : ¬ 0 = 0) => absurd h (by decide)) (fun _ => ?_)
  refine wk_b tt_332 6 (pc' := 8) (ls' := [(4, .inl (40)), (2, .inr (.inl (0))), (5, .inl (0)), (0, .inr (.inl (1684632436)))]) (st' := [.inl (40)]) (σ' := σ) rfl ?_
  refine wk_if tt_332 (tgt := 48) rfl rfl (by decide) (fun (h : 40 < 0) => absurd h (by decide)) (fun _ => ?_)
  refine wk_b tt_332 2 (pc' := 14) (ls' := [(4, .inl (40)), (2, .inr (.inl (0))), (5, .inl (0)), (0, .inr (.inl (1684632436)))]) (st' := [.inl (40), .inr (.inl (1684632436))]) (σ' := σ) rfl ?_
  obtain ⟨c0, _⟩ : p_letterOf (1684632436) (40) := ⟨by decide, trivial⟩
  refine wk_callp tt_332 rfl rfl rfl rfl rfl tt_279 rfl (by decide) (w_letterOf z σ (1684632436) (40) (by decide) (by decide) ⟨c0, trivial⟩) ?_
  rw [show (v_letterOf (1684632436) (40)) = 0 from by decide]
  refine wk_b tt_332 2 (pc' := 21) (ls' := [(5, .inl (0)), (4, .inl (40)), (2, .inr (.inl (0))), (0, .inr (.inl (1684632436)))]) (st' := [.inl (0)]) (σ' := σ) rfl ?_
  refine wk_if tt_332 (tgt := 28) rfl rfl (by decide) (fun (h : ¬ 0 = 0) => absurd h (by decide)) (fun _ => ?_)
  refine wk_b tt_332 6 (pc' := 8) (ls' := [(4, .inl (32)), (2, .inr (.inl (0))), (5, .inl (0)), (0, .inr (.inl (1684632436)))]) (st' := [.inl (32)]) (σ' := σ) rfl ?_
  refine wk_if tt_332 (tgt := 48) rfl rfl (by decide) (fun (h : 32 < 0) => absurd h (by decide)) (fun _ => ?_)
  refine wk_b tt_332 2 (pc' := 14) (ls' := [(4, .inl (32)), (2, .inr (.inl (0))), (5, .inl (0)), (0, .inr (.inl (1684632436)))]) (st' := [.inl (32), .inr (.inl (1684632436))]) (σ' := σ) rfl ?_
  obtain ⟨c0, _⟩ : p_letterOf (1684632436) (32) := ⟨by decide, trivial⟩
  refine wk_callp tt_332 rfl rfl rfl rfl rfl tt_279 rfl (by decide) (w_letterOf z σ (1684632436) (32) (by decide) (by decide) ⟨c0, trivial⟩) ?_
  rw [show (v_letterOf (1684632436) (32)) = 0 from by decide]
  refine wk_b tt_332 2 (pc' := 21) (ls' := [(5, .inl (0)), (4, .inl (32)), (2, .inr (.inl (0))), (0, .inr (.inl (1684632436)))]) (st' := [.inl (0)]) (σ' := σ) rfl ?_
  refine wk_if tt_332 (tgt := 28) rfl rfl (by decide) (fun (h : ¬ 0 = 0) => absurd h (by decide)) (fun _ => ?_)
  refine wk_b tt_332 6 (pc' := 8) (ls' := [(4, .inl (24)), (2, .inr (.inl (0))), (5, .inl (0)), (0, .inr (.inl (1684632436)))]) (st' := [.inl (24)]) (σ' := σ) rfl ?_
  refine wk_if tt_332 (tgt := 48) rfl rfl (by decide) (fun (h : 24 < 0) => absurd h (by decide)) (fun _ => ?_)
  refine wk_b tt_332 2 (pc' := 14) (ls' := [(4, .inl (24)), (2, .inr (.inl (0))), (5, .inl (0)), (0, .inr (.inl (1684632436)))]) (st' := [.inl (24), .inr (.inl (1684632436))]) (σ' := σ) rfl ?_
  obtain ⟨c0, _⟩ : p_letterOf (1684632436) (24) := ⟨by decide, trivial⟩
  refine wk_callp tt_332 rfl rfl rfl rfl rfl tt_279 rfl (by decide) (w_letterOf z σ (1684632436) (24) (by decide) (by decide) ⟨c0, trivial⟩) ?_
  rw [show (v_letterOf (1684632436) (24)) = 100 from by decide]
  refine wk_b tt_332 2 (pc' := 21) (ls' := [(5, .inl (100)), (4, .inl (24)), (2, .inr (.inl (0))), (0, .inr (.inl (1684632436)))]) (st' := [.inl (100)]) (σ' := σ) rfl ?_
  refine wk_if tt_332 (tgt := 28) rfl rfl (by decide) (fun _ => ?_) (fun (h : 100 = 0) => absurd h (by decide))
  refine wk_b tt_332 12 (pc' := 8) (ls' := [(4, .inl (16)), (2, .inr (.inl ((((40 * 0) + (sg_n (100))) - 96)))), (5, .inl (100)), (0, .inr (.inl (1684632436)))]) (st' := [.inl (16)]) (σ' := σ) rfl ?_
  rw [show (sg_n (100)) = 100 from by rw [sg_id (by decide)]]
  show wx z 2 332 8 [(4, .inl (16)), (2, .inr (.inl (4))), (5, .inl (100)), (0, .inr (.inl (1684632436)))] [.inl (16)] σ (fun v σ' => v = some (.inr (.inl (271180))) ∧ σ' = σ)
  refine wk_if tt_332 (tgt := 48) rfl rfl (by decide) (fun (h : 16 < 0) => absurd h (by decide)) (fun _ => ?_)
  refine wk_b tt_332 2 (pc' := 14) (ls' := [(4, .inl (16)), (2, .inr (.inl (4))), (5, .inl (100)), (0, .inr (.inl (1684632436)))]) (st' := [.inl (16), .inr (.inl (1684632436))]) (σ' := σ) rfl ?_
  obtain ⟨c0, _⟩ : p_letterOf (1684632436) (16) := ⟨by decide, trivial⟩
  refine wk_callp tt_332 rfl rfl rfl rfl rfl tt_279 rfl (by decide) (w_letterOf z σ (1684632436) (16) (by decide) (by decide) ⟨c0, trivial⟩) ?_
  rw [show (v_letterOf (1684632436) (16)) = 105 from by decide]
  refine wk_b tt_332 2 (pc' := 21) (ls' := [(5, .inl (105)), (4, .inl (16)), (2, .inr (.inl (4))), (0, .inr (.inl (1684632436)))]) (st' := [.inl (105)]) (σ' := σ) rfl ?_
  refine wk_if tt_332 (tgt := 28) rfl rfl (by decide) (fun _ => ?_) (fun (h : 105 = 0) => absurd h (by decide))
  refine wk_b tt_332 12 (pc' := 8) (ls' := [(4, .inl (8)), (2, .inr (.inl ((((40 * 4) + (sg_n (105))) - 96)))), (5, .inl (105)), (0, .inr (.inl (1684632436)))]) (st' := [.inl (8)]) (σ' := σ) rfl ?_
  rw [show (sg_n (105)) = 105 from by rw [sg_id (by decide)]]
  show wx z 2 332 8 [(4, .inl (8)), (2, .inr (.inl (169))), (5, .inl (105)), (0, .inr (.inl (1684632436)))] [.inl (8)] σ (fun v σ' => v = some (.inr (.inl (271180))) ∧ σ' = σ)
  refine wk_if tt_332 (tgt := 48) rfl rfl (by decide) (fun (h : 8 < 0) => absurd h (by decide)) (fun _ => ?_)
  refine wk_b tt_332 2 (pc' := 14) (ls' := [(4, .inl (8)), (2, .inr (.inl (169))), (5, .inl (105)), (0, .inr (.inl (1684632436)))]) (st' := [.inl (8), .inr (.inl (1684632436))]) (σ' := σ) rfl ?_
  obtain ⟨c0, _⟩ : p_letterOf (1684632436) (8) := ⟨by decide, trivial⟩
  refine wk_callp tt_332 rfl rfl rfl rfl rfl tt_279 rfl (by decide) (w_letterOf z σ (1684632436) (8) (by decide) (by decide) ⟨c0, trivial⟩) ?_
  rw [show (v_letterOf (1684632436) (8)) = 115 from by decide]
  refine wk_b tt_332 2 (pc' := 21) (ls' := [(5, .inl (115)), (4, .inl (8)), (2, .inr (.inl (169))), (0, .inr (.inl (1684632436)))]) (st' := [.inl (115)]) (σ' := σ) rfl ?_
  refine wk_if tt_332 (tgt := 28) rfl rfl (by decide) (fun _ => ?_) (fun (h : 115 = 0) => absurd h (by decide))
  refine wk_b tt_332 12 (pc' := 8) (ls' := [(4, .inl (0)), (2, .inr (.inl ((((40 * 169) + (sg_n (115))) - 96)))), (5, .inl (115)), (0, .inr (.inl (1684632436)))]) (st' := [.inl (0)]) (σ' := σ) rfl ?_
  rw [show (sg_n (115)) = 115 from by rw [sg_id (by decide)]]
  show wx z 2 332 8 [(4, .inl (0)), (2, .inr (.inl (6779))), (5, .inl (115)), (0, .inr (.inl (1684632436)))] [.inl (0)] σ (fun v σ' => v = some (.inr (.inl (271180))) ∧ σ' = σ)
  refine wk_if tt_332 (tgt := 48) rfl rfl (by decide) (fun (h : 0 < 0) => absurd h (by decide)) (fun _ => ?_)
  refine wk_b tt_332 2 (pc' := 14) (ls' := [(4, .inl (0)), (2, .inr (.inl (6779))), (5, .inl (115)), (0, .inr (.inl (1684632436)))]) (st' := [.inl (0), .inr (.inl (1684632436))]) (σ' := σ) rfl ?_
  obtain ⟨c0, _⟩ : p_letterOf (1684632436) (0) := ⟨by decide, trivial⟩
  refine wk_callp tt_332 rfl rfl rfl rfl rfl tt_279 rfl (by decide) (w_letterOf z σ (1684632436) (0) (by decide) (by decide) ⟨c0, trivial⟩) ?_
  rw [show (v_letterOf (1684632436) (0)) = 116 from by decide]
  refine wk_b tt_332 2 (pc' := 21) (ls' := [(5, .inl (116)), (4, .inl (0)), (2, .inr (.inl (6779))), (0, .inr (.inl (1684632436)))]) (st' := [.inl (116)]) (σ' := σ) rfl ?_
  refine wk_if tt_332 (tgt := 28) rfl rfl (by decide) (fun _ => ?_) (fun (h : 116 = 0) => absurd h (by decide))
  refine wk_b tt_332 12 (pc' := 8) (ls' := [(4, .inl ((-8))), (2, .inr (.inl ((((40 * 6779) + (sg_n (116))) - 96)))), (5, .inl (116)), (0, .inr (.inl (1684632436)))]) (st' := [.inl ((-8))]) (σ' := σ) rfl ?_
  rw [show (sg_n (116)) = 116 from by rw [sg_id (by decide)]]
  show wx z 2 332 8 [(4, .inl ((-8))), (2, .inr (.inl (271180))), (5, .inl (116)), (0, .inr (.inl (1684632436)))] [.inl ((-8))] σ (fun v σ' => v = some (.inr (.inl (271180))) ∧ σ' = σ)
  refine wk_if tt_332 (tgt := 48) rfl rfl (by decide) (fun _ => ?_) (fun (h : 0 ≤ (-8)) => absurd h (by decide))
  refine wk_b tt_332 1 (pc' := 49) (ls' := [(4, .inl ((-8))), (2, .inr (.inl (271180))), (5, .inl (116)), (0, .inr (.inl (1684632436)))]) (st' := [.inr (.inl (271180))]) (σ' := σ) rfl ?_
  exact wk_rL tt_332 rfl rfl ⟨rfl, rfl⟩
-- told
set_option maxHeartbeats 4000000 in
set_option maxRecDepth 8000 in
theorem w_told_7566701 (z : Value) (σ : sg_S) : wx z 2 332 0 [(0, .inr (.inl (7566701)))] [] σ (fun v σ' => v = some (.inr (.inl (31253))) ∧ σ' = σ) := by
  refine wk_b tt_332 5 (pc' := 8) (ls' := [(4, .inl (56)), (2, .inr (.inl (0))), (0, .inr (.inl (7566701)))]) (st' := [.inl (56)]) (σ' := σ) rfl ?_
  refine wk_if tt_332 (tgt := 48) rfl rfl (by decide) (fun (h : 56 < 0) => absurd h (by decide)) (fun _ => ?_)
  refine wk_b tt_332 2 (pc' := 14) (ls' := [(4, .inl (56)), (2, .inr (.inl (0))), (0, .inr (.inl (7566701)))]) (st' := [.inl (56), .inr (.inl (7566701))]) (σ' := σ) rfl ?_
  obtain ⟨c0, _⟩ : p_letterOf (7566701) (56) := ⟨by decide, trivial⟩
  refine wk_callp tt_332 rfl rfl rfl rfl rfl tt_279 rfl (by decide) (w_letterOf z σ (7566701) (56) (by decide) (by decide) ⟨c0, trivial⟩) ?_
  rw [show (v_letterOf (7566701) (56)) = 0 from by decide]
  refine wk_b tt_332 2 (pc' := 21) (ls' := [(5, .inl (0)), (4, .inl (56)), (2, .inr (.inl (0))), (0, .inr (.inl (7566701)))]) (st' := [.inl (0)]) (σ' := σ) rfl ?_
  refine wk_if tt_332 (tgt := 28) rfl rfl (by decide) (fun (h : ¬ 0 = 0) => absurd h (by decide)) (fun _ => ?_)
  refine wk_b tt_332 6 (pc' := 8) (ls' := [(4, .inl (48)), (2, .inr (.inl (0))), (5, .inl (0)), (0, .inr (.inl (7566701)))]) (st' := [.inl (48)]) (σ' := σ) rfl ?_
  refine wk_if tt_332 (tgt := 48) rfl rfl (by decide) (fun (h : 48 < 0) => absurd h (by decide)) (fun _ => ?_)
  refine wk_b tt_332 2 (pc' := 14) (ls' := [(4, .inl (48)), (2, .inr (.inl (0))), (5, .inl (0)), (0, .inr (.inl (7566701)))]) (st' := [.inl (48), .inr (.inl (7566701))]) (σ' := σ) rfl ?_
  obtain ⟨c0, _⟩ : p_letterOf (7566701) (48) := ⟨by decide, trivial⟩
  refine wk_callp tt_332 rfl rfl rfl rfl rfl tt_279 rfl (by decide) (w_letterOf z σ (7566701) (48) (by decide) (by decide) ⟨c0, trivial⟩) ?_
  rw [show (v_letterOf (7566701) (48)) = 0 from by decide]
  refine wk_b tt_332 2 (pc' := 21) (ls' := [(5, .inl (0)), (4, .inl (48)), (2, .inr (.inl (0))), (0, .inr (.inl (7566701)))]) (st' := [.inl (0)]) (σ' := σ) rfl ?_
  refine wk_if tt_332 (tgt := 28) rfl rfl (by decide) (fun (h : ¬ 0 = 0) => absurd h (by decide)) (fun _ => ?_)
  refine wk_b tt_332 6 (pc' := 8) (ls' := [(4, .inl (40)), (2, .inr (.inl (0))), (5, .inl (0)), (0, .inr (.inl (7566701)))]) (st' := [.inl (40)]) (σ' := σ) rfl ?_
  refine wk_if tt_332 (tgt := 48) rfl rfl (by decide) (fun (h : 40 < 0) => absurd h (by decide)) (fun _ => ?_)
  refine wk_b tt_332 2 (pc' := 14) (ls' := [(4, .inl (40)), (2, .inr (.inl (0))), (5, .inl (0)), (0, .inr (.inl (7566701)))]) (st' := [.inl (40), .inr (.inl (7566701))]) (σ' := σ) rfl ?_
  obtain ⟨c0, _⟩ : p_letterOf (7566701) (40) := ⟨by decide, trivial⟩
  refine wk_callp tt_332 rfl rfl rfl rfl rfl tt_279 rfl (by decide) (w_letterOf z σ (7566701) (40) (by decide) (by decide) ⟨c0, trivial⟩) ?_
  rw [show (v_letterOf (7566701) (40)) = 0 from by decide]
  refine wk_b tt_332 2 (pc' := 21) (ls' := [(5, .inl (0)), (4, .inl (40)), (2, .inr (.inl (0))), (0, .inr (.inl (7566701)))]) (st' := [.inl (0)]) (σ' := σ) rfl ?_
  refine wk_if tt_332 (tgt := 28) rfl rfl (by decide) (fun (h : ¬ 0 = 0) => absurd h (by decide)) (fun _ => ?_)
  refine wk_b tt_332 6 (pc' := 8) (ls' := [(4, .inl (32)), (2, .inr (.inl (0))), (5, .inl (0)), (0, .inr (.inl (7566701)))]) (st' := [.inl (32)]) (σ' := σ) rfl ?_
  refine wk_if tt_332 (tgt := 48) rfl rfl (by decide) (fun (h : 32 < 0) => absurd h (by decide)) (fun _ => ?_)
  refine wk_b tt_332 2 (pc' := 14) (ls' := [(4, .inl (32)), (2, .inr (.inl (0))), (5, .inl (0)), (0, .inr (.inl (7566701)))]) (st' := [.inl (32), .inr (.inl (7566701))]) (σ' := σ) rfl ?_
  obtain ⟨c0, _⟩ : p_letterOf (7566701) (32) := ⟨by decide, trivial⟩
  refine wk_callp tt_332 rfl rfl rfl rfl rfl tt_279 rfl (by decide) (w_letterOf z σ (7566701) (32) (by decide) (by decide) ⟨c0, trivial⟩) ?_
  rw [show (v_letterOf (7566701) (32)) = 0 from by decide]
  refine wk_b tt_332 2 (pc' := 21) (ls' := [(5, .inl (0)), (4, .inl (32)), (2, .inr (.inl (0))), (0, .inr (.inl (7566701)))]) (st' := [.inl (0)]) (σ' := σ) rfl ?_
  refine wk_if tt_332 (tgt := 28) rfl rfl (by decide) (fun (h : ¬ 0 = 0) => absurd h (by decide)) (fun _ => ?_)
  refine wk_b tt_332 6 (pc' := 8) (ls' := [(4, .inl (24)), (2, .inr (.inl (0))), (5, .inl (0)), (0, .inr (.inl (7566701)))]) (st' := [.inl (24)]) (σ' := σ) rfl ?_
  refine wk_if tt_332 (tgt := 48) rfl rfl (by decide) (fun (h : 24 < 0) => absurd h (by decide)) (fun _ => ?_)
  refine wk_b tt_332 2 (pc' := 14) (ls' := [(4, .inl (24)), (2, .inr (.inl (0))), (5, .inl (0)), (0, .inr (.inl (7566701)))]) (st' := [.inl (24), .inr (.inl (7566701))]) (σ' := σ) rfl ?_
  obtain ⟨c0, _⟩ : p_letterOf (7566701) (24) := ⟨by decide, trivial⟩
  refine wk_callp tt_332 rfl rfl rfl rfl rfl tt_279 rfl (by decide) (w_letterOf z σ (7566701) (24) (by decide) (by decide) ⟨c0, trivial⟩) ?_
  rw [show (v_letterOf (7566701) (24)) = 0 from by decide]
  refine wk_b tt_332 2 (pc' := 21) (ls' := [(5, .inl (0)), (4, .inl (24)), (2, .inr (.inl (0))), (0, .inr (.inl (7566701)))]) (st' := [.inl (0)]) (σ' := σ) rfl ?_
  refine wk_if tt_332 (tgt := 28) rfl rfl (by decide) (fun (h : ¬ 0 = 0) => absurd h (by decide)) (fun _ => ?_)
  refine wk_b tt_332 6 (pc' := 8) (ls' := [(4, .inl (16)), (2, .inr (.inl (0))), (5, .inl (0)), (0, .inr (.inl (7566701)))]) (st' := [.inl (16)]) (σ' := σ) rfl ?_
  refine wk_if tt_332 (tgt := 48) rfl rfl (by decide) (fun (h : 16 < 0) => absurd h (by decide)) (fun _ => ?_)
  refine wk_b tt_332 2 (pc' := 14) (ls' := [(4, .inl (16)), (2, .inr (.inl (0))), (5, .inl (0)), (0, .inr (.inl (7566701)))]) (st' := [.inl (16), .inr (.inl (7566701))]) (σ' := σ) rfl ?_
  obtain ⟨c0, _⟩ : p_letterOf (7566701) (16) := ⟨by decide, trivial⟩
  refine wk_callp tt_332 rfl rfl rfl rfl rfl tt_279 rfl (by decide) (w_letterOf z σ (7566701) (16) (by decide) (by decide) ⟨c0, trivial⟩) ?_
  rw [show (v_letterOf (7566701) (16)) = 115 from by decide]
  refine wk_b tt_332 2 (pc' := 21) (ls' := [(5, .inl (115)), (4, .inl (16)), (2, .inr (.inl (0))), (0, .inr (.inl (7566701)))]) (st' := [.inl (115)]) (σ' := σ) rfl ?_
  refine wk_if tt_332 (tgt := 28) rfl rfl (by decide) (fun _ => ?_) (fun (h : 115 = 0) => absurd h (by decide))
  refine wk_b tt_332 12 (pc' := 8) (ls' := [(4, .inl (8)), (2, .inr (.inl ((((40 * 0) + (sg_n (115))) - 96)))), (5, .inl (115)), (0, .inr (.inl (7566701)))]) (st' := [.inl (8)]) (σ' := σ) rfl ?_
  rw [show (sg_n (115)) = 115 from by rw [sg_id (by decide)]]
  show wx z 2 332 8 [(4, .inl (8)), (2, .inr (.inl (19))), (5, .inl (115)), (0, .inr (.inl (7566701)))] [.inl (8)] σ (fun v σ' => v = some (.inr (.inl (31253))) ∧ σ' = σ)
  refine wk_if tt_332 (tgt := 48) rfl rfl (by decide) (fun (h : 8 < 0) => absurd h (by decide)) (fun _ => ?_)
  refine wk_b tt_332 2 (pc' := 14) (ls' := [(4, .inl (8)), (2, .inr (.inl (19))), (5, .inl (115)), (0, .inr (.inl (7566701)))]) (st' := [.inl (8), .inr (.inl (7566701))]) (σ' := σ) rfl ?_
  obtain ⟨c0, _⟩ : p_letterOf (7566701) (8) := ⟨by decide, trivial⟩
  refine wk_callp tt_332 rfl rfl rfl rfl rfl tt_279 rfl (by decide) (w_letterOf z σ (7566701) (8) (by decide) (by decide) ⟨c0, trivial⟩) ?_
  rw [show (v_letterOf (7566701) (8)) = 117 from by decide]
  refine wk_b tt_332 2 (pc' := 21) (ls' := [(5, .inl (117)), (4, .inl (8)), (2, .inr (.inl (19))), (0, .inr (.inl (7566701)))]) (st' := [.inl (117)]) (σ' := σ) rfl ?_
  refine wk_if tt_332 (tgt := 28) rfl rfl (by decide) (fun _ => ?_) (fun (h : 117 = 0) => absurd h (by decide))
  refine wk_b tt_332 12 (pc' := 8) (ls' := [(4, .inl (0)), (2, .inr (.inl ((((40 * 19) + (sg_n (117))) - 96)))), (5, .inl (117)), (0, .inr (.inl (7566701)))]) (st' := [.inl (0)]) (σ' := σ) rfl ?_
  rw [show (sg_n (117)) = 117 from by rw [sg_id (by decide)]]
  show wx z 2 332 8 [(4, .inl (0)), (2, .inr (.inl (781))), (5, .inl (117)), (0, .inr (.inl (7566701)))] [.inl (0)] σ (fun v σ' => v = some (.inr (.inl (31253))) ∧ σ' = σ)
  refine wk_if tt_332 (tgt := 48) rfl rfl (by decide) (fun (h : 0 < 0) => absurd h (by decide)) (fun _ => ?_)
  refine wk_b tt_332 2 (pc' := 14) (ls' := [(4, .inl (0)), (2, .inr (.inl (781))), (5, .inl (117)), (0, .inr (.inl (7566701)))]) (st' := [.inl (0), .inr (.inl (7566701))]) (σ' := σ) rfl ?_
  obtain ⟨c0, _⟩ : p_letterOf (7566701) (0) := ⟨by decide, trivial⟩
  refine wk_callp tt_332 rfl rfl rfl rfl rfl tt_279 rfl (by decide) (w_letterOf z σ (7566701) (0) (by decide) (by decide) ⟨c0, trivial⟩) ?_
  rw [show (v_letterOf (7566701) (0)) = 109 from by decide]
  refine wk_b tt_332 2 (pc' := 21) (ls' := [(5, .inl (109)), (4, .inl (0)), (2, .inr (.inl (781))), (0, .inr (.inl (7566701)))]) (st' := [.inl (109)]) (σ' := σ) rfl ?_
  refine wk_if tt_332 (tgt := 28) rfl rfl (by decide) (fun _ => ?_) (fun (h : 109 = 0) => absurd h (by decide))
  refine wk_b tt_332 12 (pc' := 8) (ls' := [(4, .inl ((-8))), (2, .inr (.inl ((((40 * 781) + (sg_n (109))) - 96)))), (5, .inl (109)), (0, .inr (.inl (7566701)))]) (st' := [.inl ((-8))]) (σ' := σ) rfl ?_
  rw [show (sg_n (109)) = 109 from by rw [sg_id (by decide)]]
  show wx z 2 332 8 [(4, .inl ((-8))), (2, .inr (.inl (31253))), (5, .inl (109)), (0, .inr (.inl (7566701)))] [.inl ((-8))] σ (fun v σ' => v = some (.inr (.inl (31253))) ∧ σ' = σ)
  refine wk_if tt_332 (tgt := 48) rfl rfl (by decide) (fun _ => ?_) (fun (h : 0 ≤ (-8)) => absurd h (by decide))
  refine wk_b tt_332 1 (pc' := 49) (ls' := [(4, .inl ((-8))), (2, .inr (.inl (31253))), (5, .inl (109)), (0, .inr (.inl (7566701)))]) (st' := [.inr (.inl (31253))]) (σ' := σ) rfl ?_
  exact wk_rL tt_332 rfl rfl ⟨rfl, rfl⟩
-- told
set_option maxHeartbeats 4000000 in
set_option maxRecDepth 8000 in
theorem w_told_7168376 (z : Value) (σ : sg_S) : wx z 2 332 0 [(0, .inr (.inl (7168376)))] [] σ (fun v σ' => v = some (.inr (.inl (20864))) ∧ σ' = σ) := by
  refine wk_b tt_332 5 (pc' := 8) (ls' := [(4, .inl (56)), (2, .inr (.inl (0))), (0, .inr (.inl (7168376)))]) (st' := [.inl (56)]) (σ' := σ) rfl ?_
  refine wk_if tt_332 (tgt := 48) rfl rfl (by decide) (fun (h : 56 < 0) => absurd h (by decide)) (fun _ => ?_)
  refine wk_b tt_332 2 (pc' := 14) (ls' := [(4, .inl (56)), (2, .inr (.inl (0))), (0, .inr (.inl (7168376)))]) (st' := [.inl (56), .inr (.inl (7168376))]) (σ' := σ) rfl ?_
  obtain ⟨c0, _⟩ : p_letterOf (7168376) (56) := ⟨by decide, trivial⟩
  refine wk_callp tt_332 rfl rfl rfl rfl rfl tt_279 rfl (by decide) (w_letterOf z σ (7168376) (56) (by decide) (by decide) ⟨c0, trivial⟩) ?_
  rw [show (v_letterOf (7168376) (56)) = 0 from by decide]
  refine wk_b tt_332 2 (pc' := 21) (ls' := [(5, .inl (0)), (4, .inl (56)), (2, .inr (.inl (0))), (0, .inr (.inl (7168376)))]) (st' := [.inl (0)]) (σ' := σ) rfl ?_
  refine wk_if tt_332 (tgt := 28) rfl rfl (by decide) (fun (h : ¬ 0 = 0) => absurd h (by decide)) (fun _ => ?_)
  refine wk_b tt_332 6 (pc' := 8) (ls' := [(4, .inl (48)), (2, .inr (.inl (0))), (5, .inl (0)), (0, .inr (.inl (7168376)))]) (st' := [.inl (48)]) (σ' := σ) rfl ?_
  refine wk_if tt_332 (tgt := 48) rfl rfl (by decide) (fun (h : 48 < 0) => absurd h (by decide)) (fun _ => ?_)
  refine wk_b tt_332 2 (pc' := 14) (ls' := [(4, .inl (48)), (2, .inr (.inl (0))), (5, .inl (0)), (0, .inr (.inl (7168376)))]) (st' := [.inl (48), .inr (.inl (7168376))]) (σ' := σ) rfl ?_
  obtain ⟨c0, _⟩ : p_letterOf (7168376) (48) := ⟨by decide, trivial⟩
  refine wk_callp tt_332 rfl rfl rfl rfl rfl tt_279 rfl (by decide) (w_letterOf z σ (7168376) (48) (by decide) (by decide) ⟨c0, trivial⟩) ?_
  rw [show (v_letterOf (7168376) (48)) = 0 from by decide]
  refine wk_b tt_332 2 (pc' := 21) (ls' := [(5, .inl (0)), (4, .inl (48)), (2, .inr (.inl (0))), (0, .inr (.inl (7168376)))]) (st' := [.inl (0)]) (σ' := σ) rfl ?_
  refine wk_if tt_332 (tgt := 28) rfl rfl (by decide) (fun (h : ¬ 0 = 0) => absurd h (by decide)) (fun _ => ?_)
  refine wk_b tt_332 6 (pc' := 8) (ls' := [(4, .inl (40)), (2, .inr (.inl (0))), (5, .inl (0)), (0, .inr (.inl (7168376)))]) (st' := [.inl (40)]) (σ' := σ) rfl ?_
  refine wk_if tt_332 (tgt := 48) rfl rfl (by decide) (fun (h : 40 < 0) => absurd h (by decide)) (fun _ => ?_)
  refine wk_b tt_332 2 (pc' := 14) (ls' := [(4, .inl (40)), (2, .inr (.inl (0))), (5, .inl (0)), (0, .inr (.inl (7168376)))]) (st' := [.inl (40), .inr (.inl (7168376))]) (σ' := σ) rfl ?_
  obtain ⟨c0, _⟩ : p_letterOf (7168376) (40) := ⟨by decide, trivial⟩
  refine wk_callp tt_332 rfl rfl rfl rfl rfl tt_279 rfl (by decide) (w_letterOf z σ (7168376) (40) (by decide) (by decide) ⟨c0, trivial⟩) ?_
  rw [show (v_letterOf (7168376) (40)) = 0 from by decide]
  refine wk_b tt_332 2 (pc' := 21) (ls' := [(5, .inl (0)), (4, .inl (40)), (2, .inr (.inl (0))), (0, .inr (.inl (7168376)))]) (st' := [.inl (0)]) (σ' := σ) rfl ?_
  refine wk_if tt_332 (tgt := 28) rfl rfl (by decide) (fun (h : ¬ 0 = 0) => absurd h (by decide)) (fun _ => ?_)
  refine wk_b tt_332 6 (pc' := 8) (ls' := [(4, .inl (32)), (2, .inr (.inl (0))), (5, .inl (0)), (0, .inr (.inl (7168376)))]) (st' := [.inl (32)]) (σ' := σ) rfl ?_
  refine wk_if tt_332 (tgt := 48) rfl rfl (by decide) (fun (h : 32 < 0) => absurd h (by decide)) (fun _ => ?_)
  refine wk_b tt_332 2 (pc' := 14) (ls' := [(4, .inl (32)), (2, .inr (.inl (0))), (5, .inl (0)), (0, .inr (.inl (7168376)))]) (st' := [.inl (32), .inr (.inl (7168376))]) (σ' := σ) rfl ?_
  obtain ⟨c0, _⟩ : p_letterOf (7168376) (32) := ⟨by decide, trivial⟩
  refine wk_callp tt_332 rfl rfl rfl rfl rfl tt_279 rfl (by decide) (w_letterOf z σ (7168376) (32) (by decide) (by decide) ⟨c0, trivial⟩) ?_
  rw [show (v_letterOf (7168376) (32)) = 0 from by decide]
  refine wk_b tt_332 2 (pc' := 21) (ls' := [(5, .inl (0)), (4, .inl (32)), (2, .inr (.inl (0))), (0, .inr (.inl (7168376)))]) (st' := [.inl (0)]) (σ' := σ) rfl ?_
  refine wk_if tt_332 (tgt := 28) rfl rfl (by decide) (fun (h : ¬ 0 = 0) => absurd h (by decide)) (fun _ => ?_)
  refine wk_b tt_332 6 (pc' := 8) (ls' := [(4, .inl (24)), (2, .inr (.inl (0))), (5, .inl (0)), (0, .inr (.inl (7168376)))]) (st' := [.inl (24)]) (σ' := σ) rfl ?_
  refine wk_if tt_332 (tgt := 48) rfl rfl (by decide) (fun (h : 24 < 0) => absurd h (by decide)) (fun _ => ?_)
  refine wk_b tt_332 2 (pc' := 14) (ls' := [(4, .inl (24)), (2, .inr (.inl (0))), (5, .inl (0)), (0, .inr (.inl (7168376)))]) (st' := [.inl (24), .inr (.inl (7168376))]) (σ' := σ) rfl ?_
  obtain ⟨c0, _⟩ : p_letterOf (7168376) (24) := ⟨by decide, trivial⟩
  refine wk_callp tt_332 rfl rfl rfl rfl rfl tt_279 rfl (by decide) (w_letterOf z σ (7168376) (24) (by decide) (by decide) ⟨c0, trivial⟩) ?_
  rw [show (v_letterOf (7168376) (24)) = 0 from by decide]
  refine wk_b tt_332 2 (pc' := 21) (ls' := [(5, .inl (0)), (4, .inl (24)), (2, .inr (.inl (0))), (0, .inr (.inl (7168376)))]) (st' := [.inl (0)]) (σ' := σ) rfl ?_
  refine wk_if tt_332 (tgt := 28) rfl rfl (by decide) (fun (h : ¬ 0 = 0) => absurd h (by decide)) (fun _ => ?_)
  refine wk_b tt_332 6 (pc' := 8) (ls' := [(4, .inl (16)), (2, .inr (.inl (0))), (5, .inl (0)), (0, .inr (.inl (7168376)))]) (st' := [.inl (16)]) (σ' := σ) rfl ?_
  refine wk_if tt_332 (tgt := 48) rfl rfl (by decide) (fun (h : 16 < 0) => absurd h (by decide)) (fun _ => ?_)
  refine wk_b tt_332 2 (pc' := 14) (ls' := [(4, .inl (16)), (2, .inr (.inl (0))), (5, .inl (0)), (0, .inr (.inl (7168376)))]) (st' := [.inl (16), .inr (.inl (7168376))]) (σ' := σ) rfl ?_
  obtain ⟨c0, _⟩ : p_letterOf (7168376) (16) := ⟨by decide, trivial⟩
  refine wk_callp tt_332 rfl rfl rfl rfl rfl tt_279 rfl (by decide) (w_letterOf z σ (7168376) (16) (by decide) (by decide) ⟨c0, trivial⟩) ?_
  rw [show (v_letterOf (7168376) (16)) = 109 from by decide]
  refine wk_b tt_332 2 (pc' := 21) (ls' := [(5, .inl (109)), (4, .inl (16)), (2, .inr (.inl (0))), (0, .inr (.inl (7168376)))]) (st' := [.inl (109)]) (σ' := σ) rfl ?_
  refine wk_if tt_332 (tgt := 28) rfl rfl (by decide) (fun _ => ?_) (fun (h : 109 = 0) => absurd h (by decide))
  refine wk_b tt_332 12 (pc' := 8) (ls' := [(4, .inl (8)), (2, .inr (.inl ((((40 * 0) + (sg_n (109))) - 96)))), (5, .inl (109)), (0, .inr (.inl (7168376)))]) (st' := [.inl (8)]) (σ' := σ) rfl ?_
  rw [show (sg_n (109)) = 109 from by rw [sg_id (by decide)]]
  show wx z 2 332 8 [(4, .inl (8)), (2, .inr (.inl (13))), (5, .inl (109)), (0, .inr (.inl (7168376)))] [.inl (8)] σ (fun v σ' => v = some (.inr (.inl (20864))) ∧ σ' = σ)
  refine wk_if tt_332 (tgt := 48) rfl rfl (by decide) (fun (h : 8 < 0) => absurd h (by decide)) (fun _ => ?_)
  refine wk_b tt_332 2 (pc' := 14) (ls' := [(4, .inl (8)), (2, .inr (.inl (13))), (5, .inl (109)), (0, .inr (.inl (7168376)))]) (st' := [.inl (8), .inr (.inl (7168376))]) (σ' := σ) rfl ?_
  obtain ⟨c0, _⟩ : p_letterOf (7168376) (8) := ⟨by decide, trivial⟩
  refine wk_callp tt_332 rfl rfl rfl rfl rfl tt_279 rfl (by decide) (w_letterOf z σ (7168376) (8) (by decide) (by decide) ⟨c0, trivial⟩) ?_
  rw [show (v_letterOf (7168376) (8)) = 97 from by decide]
  refine wk_b tt_332 2 (pc' := 21) (ls' := [(5, .inl (97)), (4, .inl (8)), (2, .inr (.inl (13))), (0, .inr (.inl (7168376)))]) (st' := [.inl (97)]) (σ' := σ) rfl ?_
  refine wk_if tt_332 (tgt := 28) rfl rfl (by decide) (fun _ => ?_) (fun (h : 97 = 0) => absurd h (by decide))
  refine wk_b tt_332 12 (pc' := 8) (ls' := [(4, .inl (0)), (2, .inr (.inl ((((40 * 13) + (sg_n (97))) - 96)))), (5, .inl (97)), (0, .inr (.inl (7168376)))]) (st' := [.inl (0)]) (σ' := σ) rfl ?_
  rw [show (sg_n (97)) = 97 from by rw [sg_id (by decide)]]
  show wx z 2 332 8 [(4, .inl (0)), (2, .inr (.inl (521))), (5, .inl (97)), (0, .inr (.inl (7168376)))] [.inl (0)] σ (fun v σ' => v = some (.inr (.inl (20864))) ∧ σ' = σ)
  refine wk_if tt_332 (tgt := 48) rfl rfl (by decide) (fun (h : 0 < 0) => absurd h (by decide)) (fun _ => ?_)
  refine wk_b tt_332 2 (pc' := 14) (ls' := [(4, .inl (0)), (2, .inr (.inl (521))), (5, .inl (97)), (0, .inr (.inl (7168376)))]) (st' := [.inl (0), .inr (.inl (7168376))]) (σ' := σ) rfl ?_
  obtain ⟨c0, _⟩ : p_letterOf (7168376) (0) := ⟨by decide, trivial⟩
  refine wk_callp tt_332 rfl rfl rfl rfl rfl tt_279 rfl (by decide) (w_letterOf z σ (7168376) (0) (by decide) (by decide) ⟨c0, trivial⟩) ?_
  rw [show (v_letterOf (7168376) (0)) = 120 from by decide]
  refine wk_b tt_332 2 (pc' := 21) (ls' := [(5, .inl (120)), (4, .inl (0)), (2, .inr (.inl (521))), (0, .inr (.inl (7168376)))]) (st' := [.inl (120)]) (σ' := σ) rfl ?_
  refine wk_if tt_332 (tgt := 28) rfl rfl (by decide) (fun _ => ?_) (fun (h : 120 = 0) => absurd h (by decide))
  refine wk_b tt_332 12 (pc' := 8) (ls' := [(4, .inl ((-8))), (2, .inr (.inl ((((40 * 521) + (sg_n (120))) - 96)))), (5, .inl (120)), (0, .inr (.inl (7168376)))]) (st' := [.inl ((-8))]) (σ' := σ) rfl ?_
  rw [show (sg_n (120)) = 120 from by rw [sg_id (by decide)]]
  show wx z 2 332 8 [(4, .inl ((-8))), (2, .inr (.inl (20864))), (5, .inl (120)), (0, .inr (.inl (7168376)))] [.inl ((-8))] σ (fun v σ' => v = some (.inr (.inl (20864))) ∧ σ' = σ)
  refine wk_if tt_332 (tgt := 48) rfl rfl (by decide) (fun _ => ?_) (fun (h : 0 ≤ (-8)) => absurd h (by decide))
  refine wk_b tt_332 1 (pc' := 49) (ls' := [(4, .inl ((-8))), (2, .inr (.inl (20864))), (5, .inl (120)), (0, .inr (.inl (7168376)))]) (st' := [.inr (.inl (20864))]) (σ' := σ) rfl ?_
  exact wk_rL tt_332 rfl rfl ⟨rfl, rfl⟩
