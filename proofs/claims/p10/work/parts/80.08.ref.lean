/-! Conditions of the reference's methods, by program (8). -/
-- NestedVectorsModel.stepped
def V_stepped (σ : sg_S) (a1 : Int) (Q : Int → sg_S → Prop) : Prop := (((sg_g σ 88 84) = 2000 → ∀ σ2, σ2 = (sg_w σ 88 73 (8)) → Q (0) σ2) ∧ (¬ (sg_g σ 88 84) = 2000 → sg_RL ((sg_g σ 88 85) + a1) ∧ ((((sg_g σ 88 85) + a1) ≤ 6000 → sg_R ((sg_g σ 88 84) + 1) ∧ ∀ σ8, σ8 = (sg_w σ 88 84 (((sg_g σ 88 84) + 1))) → sg_R (a1) ∧ ∀ σ12, σ12 = (sg_w σ8 88 85 (((sg_g σ 88 85) + a1))) → Q (1) σ12) ∧ (6000 < ((sg_g σ 88 85) + a1) → ∀ σ15, σ15 = (sg_w σ 88 73 (8)) → Q (0) σ15))))
set_option maxHeartbeats 4000000 in
set_option maxRecDepth 8000 in
theorem w_stepped (z : Value) (σ : sg_S) (a1 : Int) (Q : Int → sg_S → Prop) (ra1 : sg_RL a1) (w : V_stepped σ a1 Q) : wx z 0 329 0 [(0, .inr (.inr (.ref 88))), (1, .inr (.inl (a1)))] [] σ (fun v σ' => ∃ q, v = some (.inl q) ∧ (q = 0 ∨ q = 1) ∧ sg_F [74088, 85088, 86088] σ σ' ∧ Q q σ') := by
  unfold V_stepped at w
  refine wk_b tt_329 3 (pc' := 7) (ls' := [(0, .inr (.inr (.ref 88))), (1, .inr (.inl (a1)))]) (st' := [.inl (2000), .inl ((sg_g σ 88 84))]) (σ' := σ) rfl ?_
  refine wk_if2 tt_329 (tgt := 24) rfl rfl (sg_Rg _ _ _) (by decide) (fun (h1 : (sg_g σ 88 84) = 2000) => ?_) (fun (h1 : ¬ (sg_g σ 88 84) = 2000) => ?_)
  ·
    have w := w.1 h1
    refine wk_b tt_329 3 (pc' := 30) (ls' := [(0, .inr (.inr (.ref 88))), (1, .inr (.inl (a1)))]) (st' := []) (σ' := (sg_w σ 88 73 (8))) rfl ?_
    generalize hs3 : (sg_w σ 88 73 (8)) = σ2
    have w := w σ2 hs3.symm
    have hF4 : sg_F [74088] σ σ2 := by rw [← hs3]; exact sg_F_w (sg_F_r _ _) rfl _
    refine wk_b tt_329 1 (pc' := 31) (ls' := [(0, .inr (.inr (.ref 88))), (1, .inr (.inl (a1)))]) (st' := [.inl (0)]) (σ' := σ2) rfl ?_
    exact wk_rZ tt_329 rfl rfl (by decide) ⟨_, rfl, (by decide), (sg_F_t (sg_F_r [74088, 85088, 86088] σ) (sg_F_m (L := [74088, 85088, 86088]) hF4 rfl)), w⟩
  ·
    have w := w.2 h1
    obtain ⟨c5, w⟩ := w
    refine wk_b tt_329 6 (pc' := 20) (ls' := [(0, .inr (.inr (.ref 88))), (1, .inr (.inl (a1)))]) (st' := [.inr (.inl (6000)), .inr (.inl (((sg_n ((sg_g σ 88 85))) + a1)))]) (σ' := σ) rfl ?_
    rw [show (sg_n ((sg_g σ 88 85))) = (sg_g σ 88 85) from by rw [sg_id (sg_Rg _ _ _)]]
    refine wk_lcif tt_329 (tgt := 32) rfl rfl rfl c5 (by decide) (fun (h6 : ((sg_g σ 88 85) + a1) ≤ 6000) => ?_) (fun (h6 : 6000 < ((sg_g σ 88 85) + a1)) => ?_)
    ·
      have w := w.1 h6
      obtain ⟨c7, w⟩ := w
      refine wk_b tt_329 6 (pc' := 42) (ls' := [(0, .inr (.inr (.ref 88))), (1, .inr (.inl (a1)))]) (st' := []) (σ' := (sg_w σ 88 84 (((sg_g σ 88 84) + 1)))) rfl ?_
      generalize hs9 : (sg_w σ 88 84 (((sg_g σ 88 84) + 1))) = σ8
      have w := w σ8 hs9.symm
      have hF10 : sg_F [85088] σ σ8 := by rw [← hs9]; exact sg_F_w (sg_F_r _ _) rfl _
      obtain ⟨c11, w⟩ := w
      refine wk_b tt_329 5 (pc' := 49) (ls' := [(0, .inr (.inr (.ref 88))), (1, .inr (.inl (a1)))]) (st' := [.inl (a1), .inl ((sg_g σ8 88 85)), .inr (.inr (.ref 88))]) (σ' := σ8) rfl ?_
      rw [show (sg_g σ8 88 85) = (sg_g σ 88 85) from by rw [sg_F_g hF10 rfl]]
      refine wk_b tt_329 2 (pc' := 53) (ls' := [(0, .inr (.inr (.ref 88))), (1, .inr (.inl (a1)))]) (st' := []) (σ' := (sg_w σ8 88 85 (((sg_g σ 88 85) + a1)))) rfl ?_
      generalize hs13 : (sg_w σ8 88 85 (((sg_g σ 88 85) + a1))) = σ12
      have w := w σ12 hs13.symm
      have hF14 : sg_F [86088] σ8 σ12 := by rw [← hs13]; exact sg_F_w (sg_F_r _ _) rfl _
      refine wk_b tt_329 1 (pc' := 54) (ls' := [(0, .inr (.inr (.ref 88))), (1, .inr (.inl (a1)))]) (st' := [.inl (1)]) (σ' := σ12) rfl ?_
      exact wk_rZ tt_329 rfl rfl (by decide) ⟨_, rfl, (by decide), (sg_F_t (sg_F_t (sg_F_r [74088, 85088, 86088] σ) (sg_F_m (L := [74088, 85088, 86088]) hF10 rfl)) (sg_F_m (L := [74088, 85088, 86088]) hF14 rfl)), w⟩
    ·
      have w := w.2 h6
      refine wk_b tt_329 3 (pc' := 30) (ls' := [(0, .inr (.inr (.ref 88))), (1, .inr (.inl (a1)))]) (st' := []) (σ' := (sg_w σ 88 73 (8))) rfl ?_
      generalize hs16 : (sg_w σ 88 73 (8)) = σ15
      have w := w σ15 hs16.symm
      have hF17 : sg_F [74088] σ σ15 := by rw [← hs16]; exact sg_F_w (sg_F_r _ _) rfl _
      refine wk_b tt_329 1 (pc' := 31) (ls' := [(0, .inr (.inr (.ref 88))), (1, .inr (.inl (a1)))]) (st' := [.inl (0)]) (σ' := σ15) rfl ?_
      exact wk_rZ tt_329 rfl rfl (by decide) ⟨_, rfl, (by decide), (sg_F_t (sg_F_r [74088, 85088, 86088] σ) (sg_F_m (L := [74088, 85088, 86088]) hF17 rfl)), w⟩
-- NestedVectorsModel.newFlat
def V_newFlat (σ : sg_S) (a1 : Int) (Q : Int → sg_S → Prop) : Prop := (0 ≤ (sg_g σ 88 87) ∧ (sg_g σ 88 87) < 30000) ∧ ∀ σ2, σ2 = (sg_w σ 139 ((sg_g σ 88 87)) (a1)) → sg_R ((sg_g σ 88 87) + 1) ∧ ∀ σ6, σ6 = (sg_w σ2 88 87 (((sg_g σ 88 87) + 1))) → sg_R (((sg_g σ 88 87) + 1) - 1) ∧ Q ((((sg_g σ 88 87) + 1) - 1)) σ6
set_option maxHeartbeats 4000000 in
set_option maxRecDepth 8000 in
theorem w_newFlat (z : Value) (σ : sg_S) (a1 : Int) (Q : Int → sg_S → Prop) (ra1 : sg_R a1) (w : V_newFlat σ a1 Q) : wx z 0 293 0 [(0, .inr (.inr (.ref 88))), (1, .inl (a1))] [] σ (fun v σ' => ∃ q, v = some (.inl q) ∧ sg_R q ∧ sg_F [139, 88088] σ σ' ∧ Q q σ') := by
  unfold V_newFlat at w
  refine wk_b tt_293 5 (pc' := 9) (ls' := [(0, .inr (.inr (.ref 88))), (1, .inl (a1))]) (st' := [.inl (a1), .inl ((sg_g σ 88 87)), .inr (.inr (.ref 139))]) (σ' := σ) rfl ?_
  obtain ⟨c1, w⟩ := w
  refine wk_is tt_293 rfl rfl c1.1 c1.2 (sg_Rg _ _ _) ?_
  generalize hs3 : (sg_w σ 139 ((sg_g σ 88 87)) (a1)) = σ2
  have w := w σ2 hs3.symm
  have hF4 : sg_F [139] σ σ2 := by rw [← hs3]; exact sg_F_w (sg_F_r _ _) rfl _
  obtain ⟨c5, w⟩ := w
  refine wk_b tt_293 6 (pc' := 20) (ls' := [(0, .inr (.inr (.ref 88))), (1, .inl (a1))]) (st' := []) (σ' := (sg_w σ2 88 87 (((sg_g σ2 88 87) + 1)))) rfl ?_
  rw [show (sg_g σ2 88 87) = (sg_g σ 88 87) from by rw [sg_F_ga hF4 rfl]]
  generalize hs7 : (sg_w σ2 88 87 (((sg_g σ 88 87) + 1))) = σ6
  have w := w σ6 hs7.symm
  have hF8 : sg_F [88088] σ2 σ6 := by rw [← hs7]; exact sg_F_w (sg_F_r _ _) rfl _
  obtain ⟨c9, w⟩ := w
  refine wk_b tt_293 4 (pc' := 26) (ls' := [(0, .inr (.inr (.ref 88))), (1, .inl (a1))]) (st' := [.inl (((sg_g σ6 88 87) - 1))]) (σ' := σ6) rfl ?_
  rw [show (sg_g σ6 88 87) = ((sg_g σ 88 87) + 1) from by rw [(show sg_g σ6 88 87 = ((sg_g σ 88 87) + 1) from by rw [← hs7]; exact sg_gw_e _ _ _ _ c5)]]
  exact wk_rI tt_293 rfl rfl ⟨_, rfl, c9, (sg_F_t (sg_F_t (sg_F_r [139, 88088] σ) (sg_F_m (L := [139, 88088]) hF4 rfl)) (sg_F_m (L := [139, 88088]) hF8 rfl)), w⟩
-- NestedVectorsModel.gathered
def V_gathered (σ : sg_S) (a1 : Int) (Q : Int → sg_S → Prop) : Prop := V_findBegins σ (a1) (fun σ2 => sg_F [144] σ σ2 → (0 ≤ a1 ∧ a1 < 30000) ∧ V_newFlat σ2 ((sg_g σ 139 (a1))) (fun q8 σ9 => sg_R q8 → sg_F [139, 88088] σ2 σ9 → (∃ (I17 : Nat → Int → sg_S → Prop) (X19 : sg_S → Prop), (∃ n, I17 n (0) σ9) ∧ (∀ (n27 : Nat) (v14 : Int) (σ15 : sg_S), sg_R v14 → sg_F [140, 141, 142, 92088] σ9 σ15 → I17 n27 v14 σ15 → (((sg_g σ9 139 (a1)) < v14 → X19 σ15) ∧ (v14 ≤ (sg_g σ9 139 (a1)) → sg_R (4 * q8) ∧ sg_R ((4 * q8) + v14) ∧ (0 ≤ ((4 * q8) + v14) ∧ ((4 * q8) + v14) < 120000) ∧ ∀ σ33, σ33 = (sg_w σ15 140 (((4 * q8) + v14)) ((sg_g σ15 88 91))) → (∃ (I39 : Nat → Int → sg_S → Prop) (X41 : sg_S → Prop), (∃ n, I39 n (0) σ33) ∧ (∀ (n49 : Nat) (v36 : Int) (σ37 : sg_S), sg_R v36 → sg_F [142, 92088] σ33 σ37 → I39 n49 v36 σ37 → (((sg_g σ 88 93) ≤ v36 → X41 σ37) ∧ (v36 < (sg_g σ 88 93) → (0 ≤ v36 ∧ v36 < 13000) ∧ (∃ P61 : sg_S → Prop, ((0 ≤ (sg_g σ 143 (v36)) → P61 σ37) ∧ ((sg_g σ 143 (v36)) < 0 → ((¬ v14 = 0 → P61 σ37) ∧ (v14 = 0 → (0 ≤ (sg_g σ37 88 91) ∧ (sg_g σ37 88 91) < 60000) ∧ ∀ σ113, σ113 = (sg_w σ37 142 ((sg_g σ37 88 91)) (0)) → sg_R ((sg_g σ37 88 91) + 1) ∧ ∀ σ117, σ117 = (sg_w σ113 88 91 (((sg_g σ37 88 91) + 1))) → P61 σ117)))) ∧ (∀ (σ62 : sg_S), sg_F [142, 92088] σ37 σ62 → P61 σ62 → ((0 ≤ (sg_g σ 143 (v36)) → sg_R (13000 * v14) ∧ sg_R ((13000 * v14) + (sg_g σ 143 (v36))) ∧ (0 ≤ ((13000 * v14) + (sg_g σ 143 (v36))) ∧ ((13000 * v14) + (sg_g σ 143 (v36))) < 52000) ∧ True) ∧ ((sg_g σ 143 (v36)) < 0 → True)) ∧ ∀ v67 : Int, v67 = (if 0 ≤ (sg_g σ 143 (v36)) then (sg_g σ2 144 (((13000 * v14) + (sg_g σ 143 (v36))))) else (0 : Int)) → sg_R v67 → (∃ (I73 : Nat → Int → sg_S → Prop) (X75 : sg_S → Prop), (∃ n, I73 n (v67) σ62) ∧ (∀ (n83 : Nat) (v70 : Int) (σ71 : sg_S), sg_R v70 → sg_F [142, 92088] σ62 σ71 → I73 n83 v70 σ71 → (((sg_g σ 143 (v36)) < 0 → X75 σ71) ∧ (0 ≤ (sg_g σ 143 (v36)) → sg_R (13000 * v14) ∧ sg_R ((13000 * v14) + (sg_g σ 143 (v36))) ∧ sg_R (((13000 * v14) + (sg_g σ 143 (v36))) + 1) ∧ (0 ≤ (((13000 * v14) + (sg_g σ 143 (v36))) + 1) ∧ (((13000 * v14) + (sg_g σ 143 (v36))) + 1) < 52000) ∧ (((sg_g σ2 144 ((((13000 * v14) + (sg_g σ 143 (v36))) + 1))) ≤ v70 → X75 σ71) ∧ (v70 < (sg_g σ2 144 ((((13000 * v14) + (sg_g σ 143 (v36))) + 1))) → sg_R (4 * a1) ∧ sg_R ((4 * a1) + v14) ∧ (0 ≤ ((4 * a1) + v14) ∧ ((4 * a1) + v14) < 120000) ∧ sg_R ((sg_g σ33 140 (((4 * a1) + v14))) + v70) ∧ (0 ≤ ((sg_g σ33 140 (((4 * a1) + v14))) + v70) ∧ ((sg_g σ33 140 (((4 * a1) + v14))) + v70) < 60000) ∧ (0 ≤ (sg_g σ71 88 91) ∧ (sg_g σ71 88 91) < 60000) ∧ ∀ σ99, σ99 = (sg_w σ71 142 ((sg_g σ71 88 91)) ((sg_g σ71 142 (((sg_g σ33 140 (((4 * a1) + v14))) + v70))))) → sg_R ((sg_g σ71 88 91) + 1) ∧ ∀ σ103, σ103 = (sg_w σ99 88 91 (((sg_g σ71 88 91) + 1))) → sg_R (v70 + 1) ∧ (∃ m, m < n83 ∧ I73 m ((v70 + 1)) σ103)))))) ∧ (∀ (σ71 : sg_S), sg_F [142, 92088] σ62 σ71 → X75 σ71 → sg_R (v36 + 1) ∧ (∃ m, m < n49 ∧ I39 m ((v36 + 1)) σ71)))))))) ∧ (∀ (σ37 : sg_S), sg_F [142, 92088] σ33 σ37 → X41 σ37 → sg_R ((sg_g σ37 88 91) - (sg_g σ33 140 (((4 * q8) + v14)))) ∧ ∀ σ52, σ52 = (sg_w σ37 141 (((4 * q8) + v14)) (((sg_g σ37 88 91) - (sg_g σ33 140 (((4 * q8) + v14)))))) → sg_R (v14 + 1) ∧ (∃ m, m < n27 ∧ I17 m ((v14 + 1)) σ52)))))) ∧ (∀ (σ15 : sg_S), sg_F [140, 141, 142, 92088] σ9 σ15 → X19 σ15 → Q (q8) σ15))))
set_option maxHeartbeats 4000000 in
set_option maxRecDepth 8000 in
theorem w_gathered (z : Value) (σ : sg_S) (a1 : Int) (Q : Int → sg_S → Prop) (ra1 : sg_R a1) (w : V_gathered σ a1 Q) : wx z 2 249 0 [(0, .inr (.inr (.ref 88))), (1, .inl (a1))] [] σ (fun v σ' => ∃ q, v = some (.inl q) ∧ sg_R q ∧ sg_F [139, 140, 141, 142, 144, 88088, 92088] σ σ' ∧ Q q σ') := by
  unfold V_gathered at w
  refine wk_b tt_249 2 (pc' := 2) (ls' := [(0, .inr (.inr (.ref 88))), (1, .inl (a1))]) (st' := [.inl (a1), .inr (.inr (.ref 88))]) (σ' := σ) rfl ?_
  refine wk_call tt_249 rfl rfl rfl rfl rfl tt_230 rfl (by decide) (w_findBegins z σ (a1) _ ra1 w) (fun u6 σ2 hq4 => ?_)
  obtain ⟨rfl, hF3, w⟩ := hq4
  have w := w hF3
  refine wk_b tt_249 4 (pc' := 11) (ls' := [(0, .inr (.inr (.ref 88))), (1, .inl (a1))]) (st' := [.inl (a1), .inr (.inr (.ref 139)), .inr (.inr (.ref 88))]) (σ' := σ2) rfl ?_
  obtain ⟨c7, w⟩ := w
  refine wk_ia tt_249 rfl rfl c7.1 c7.2 ra1 ?_
  rw [show (sg_g σ2 139 (a1)) = (sg_g σ 139 (a1)) from by rw [sg_F_ga hF3 rfl]]
  refine wk_call tt_249 rfl rfl rfl rfl rfl tt_293 rfl (by decide) (w_newFlat z σ2 ((sg_g σ 139 (a1))) _ (sg_Rg _ _ _) w) (fun u13 σ9 hq11 => ?_)
  obtain ⟨q8, rfl, r12, hF10, w⟩ := hq11
  have w := w r12 hF10
  refine wk_b tt_249 3 (pc' := 18) (ls' := [(3, .inl (0)), (2, .inl (q8)), (0, .inr (.inr (.ref 88))), (1, .inl (a1))]) (st' := []) (σ' := σ9) rfl ?_
  obtain ⟨I17, X19, ⟨μ18, w24⟩, w25, w26⟩ := w
  have ex28 : ∀ (σ15 : sg_S), sg_F [140, 141, 142, 92088] σ9 σ15 → X19 σ15 → wx z 2 249 237 [(2, .inl (q8))] [] σ15 (fun v σ' => ∃ q, v = some (.inl q) ∧ sg_R q ∧ sg_F [139, 140, 141, 142, 144, 88088, 92088] σ σ' ∧ Q q σ') := by
    intro σ15 hF16 w
    have w := w26 σ15 hF16 w
    refine wk_b tt_249 1 (pc' := 238) (ls' := [(2, .inl (q8))]) (st' := [.inl (q8)]) (σ' := σ15) rfl ?_
    exact wk_rI tt_249 rfl rfl ⟨_, rfl, r12, (sg_F_t (sg_F_t (sg_F_t (sg_F_r [139, 140, 141, 142, 144, 88088, 92088] σ) (sg_F_m (L := [139, 140, 141, 142, 144, 88088, 92088]) hF3 rfl)) (sg_F_m (L := [139, 140, 141, 142, 144, 88088, 92088]) hF10 rfl)) (sg_F_m (L := [139, 140, 141, 142, 144, 88088, 92088]) hF16 rfl)), w⟩
  have lp23 : ∀ (n27 : Nat) (v14 : Int) (σ15 : sg_S), sg_R v14 → sg_F [140, 141, 142, 92088] σ9 σ15 → I17 n27 v14 σ15 → wx z 2 249 18 [(0, .inr (.inr (.ref 88))), (1, .inl (a1)), (2, .inl (q8)), (3, .inl (v14))] [] σ15 (fun v σ' => ∃ q, v = some (.inl q) ∧ sg_R q ∧ sg_F [139, 140, 141, 142, 144, 88088, 92088] σ σ' ∧ Q q σ') := by
    intro n27
    induction n27 using Nat.strongRecOn with
    | _ n27 ih21 =>
      intro v14 σ15 r20 hF16 w
      have w := w25 n27 v14 σ15 r20 hF16 w
      refine wk_b tt_249 4 (pc' := 24) (ls' := [(0, .inr (.inr (.ref 88))), (1, .inl (a1)), (2, .inl (q8)), (3, .inl (v14))]) (st' := [.inl (a1), .inr (.inr (.ref 139)), .inl (v14)]) (σ' := σ15) rfl ?_
      refine wk_ia tt_249 rfl rfl c7.1 c7.2 ra1 ?_
      rw [show (sg_g σ15 139 (a1)) = (sg_g σ9 139 (a1)) from by rw [sg_F_ga hF16 rfl]]
      refine wk_if2 tt_249 (tgt := 237) rfl rfl r20 (sg_Rg _ _ _) (fun (h29 : (sg_g σ9 139 (a1)) < v14) => ?_) (fun (h29 : v14 ≤ (sg_g σ9 139 (a1))) => ?_)
      ·
        have w := w.1 h29
        exact wk_ls [(2, .inl (q8))] rfl ⟨rfl, trivial⟩ (ex28  σ15  (sg_F_t (sg_F_r [140, 141, 142, 92088] σ9) (sg_F_m (L := [140, 141, 142, 92088]) hF16 rfl)) w)
      ·
        have w := w.2 h29
        obtain ⟨c30, w⟩ := w
        obtain ⟨c31, w⟩ := w
        refine wk_b tt_249 9 (pc' := 41) (ls' := [(0, .inr (.inr (.ref 88))), (1, .inl (a1)), (2, .inl (q8)), (3, .inl (v14))]) (st' := [.inl ((sg_g σ15 88 91)), .inl (((4 * q8) + v14)), .inr (.inr (.ref 140))]) (σ' := σ15) rfl ?_
        obtain ⟨c32, w⟩ := w
        refine wk_is tt_249 rfl rfl c32.1 c32.2 c31 ?_
        generalize hs34 : (sg_w σ15 140 (((4 * q8) + v14)) ((sg_g σ15 88 91))) = σ33
        have w := w σ33 hs34.symm
        have hF35 : sg_F [140] σ15 σ33 := by rw [← hs34]; exact sg_F_w (sg_F_r _ _) rfl _
        refine wk_b tt_249 2 (pc' := 45) (ls' := [(4, .inl (0)), (0, .inr (.inr (.ref 88))), (1, .inl (a1)), (2, .inl (q8)), (3, .inl (v14))]) (st' := []) (σ' := σ33) rfl ?_
        obtain ⟨I39, X41, ⟨μ40, w46⟩, w47, w48⟩ := w
        have ex50 : ∀ (σ37 : sg_S), sg_F [142, 92088] σ33 σ37 → X41 σ37 → wx z 2 249 206 [(0, .inr (.inr (.ref 88))), (1, .inl (a1)), (2, .inl (q8)), (3, .inl (v14))] [] σ37 (fun v σ' => ∃ q, v = some (.inl q) ∧ sg_R q ∧ sg_F [139, 140, 141, 142, 144, 88088, 92088] σ σ' ∧ Q q σ') := by
          intro σ37 hF38 w
          have w := w48 σ37 hF38 w
          refine wk_b tt_249 16 (pc' := 228) (ls' := [(0, .inr (.inr (.ref 88))), (1, .inl (a1)), (2, .inl (q8)), (3, .inl (v14))]) (st' := [.inl (((4 * q8) + v14)), .inr (.inr (.ref 140)), .inl ((sg_g σ37 88 91)), .inl (((4 * q8) + v14)), .inr (.inr (.ref 141))]) (σ' := σ37) rfl ?_
          refine wk_ia tt_249 rfl rfl c32.1 c32.2 c31 ?_
          rw [show (sg_g σ37 140 (((4 * q8) + v14))) = (sg_g σ33 140 (((4 * q8) + v14))) from by rw [sg_F_ga hF38 rfl]]
          obtain ⟨c51, w⟩ := w
          refine wk_b tt_249 1 (pc' := 230) (ls' := [(0, .inr (.inr (.ref 88))), (1, .inl (a1)), (2, .inl (q8)), (3, .inl (v14))]) (st' := [.inl (((sg_g σ37 88 91) - (sg_g σ33 140 (((4 * q8) + v14))))), .inl (((4 * q8) + v14)), .inr (.inr (.ref 141))]) (σ' := σ37) rfl ?_
          refine wk_is tt_249 rfl rfl c32.1 c32.2 c31 ?_
          generalize hs53 : (sg_w σ37 141 (((4 * q8) + v14)) (((sg_g σ37 88 91) - (sg_g σ33 140 (((4 * q8) + v14)))))) = σ52
          have w := w σ52 hs53.symm
          have hF54 : sg_F [141] σ37 σ52 := by rw [← hs53]; exact sg_F_w (sg_F_r _ _) rfl _
          obtain ⟨c55, w⟩ := w
          refine wk_b tt_249 2 (pc' := 18) (ls' := [(3, .inl ((v14 + 1))), (0, .inr (.inr (.ref 88))), (1, .inl (a1)), (2, .inl (q8))]) (st' := []) (σ' := σ52) rfl ?_
          obtain ⟨m56, hm56, w⟩ := w
          exact wk_ls [(0, .inr (.inr (.ref 88))), (1, .inl (a1)), (2, .inl (q8)), (3, .inl ((v14 + 1)))] rfl ⟨rfl, rfl, rfl, rfl, trivial⟩ (ih21 m56 hm56 ((v14 + 1)) σ52 c55 (sg_F_t (sg_F_t (sg_F_t (sg_F_t (sg_F_r [140, 141, 142, 92088] σ9) (sg_F_m (L := [140, 141, 142, 92088]) hF16 rfl)) (sg_F_m (L := [140, 141, 142, 92088]) hF35 rfl)) (sg_F_m (L := [140, 141, 142, 92088]) hF38 rfl)) (sg_F_m (L := [140, 141, 142, 92088]) hF54 rfl)) w)
        have lp45 : ∀ (n49 : Nat) (v36 : Int) (σ37 : sg_S), sg_R v36 → sg_F [142, 92088] σ33 σ37 → I39 n49 v36 σ37 → wx z 2 249 45 [(0, .inr (.inr (.ref 88))), (1, .inl (a1)), (2, .inl (q8)), (3, .inl (v14)), (4, .inl (v36))] [] σ37 (fun v σ' => ∃ q, v = some (.inl q) ∧ sg_R q ∧ sg_F [139, 140, 141, 142, 144, 88088, 92088] σ σ' ∧ Q q σ') := by
          intro n49
          induction n49 using Nat.strongRecOn with
          | _ n49 ih43 =>
            intro v36 σ37 r42 hF38 w
            have w := w47 n49 v36 σ37 r42 hF38 w
            refine wk_b tt_249 3 (pc' := 51) (ls' := [(0, .inr (.inr (.ref 88))), (1, .inl (a1)), (2, .inl (q8)), (3, .inl (v14)), (4, .inl (v36))]) (st' := [.inl ((sg_g σ37 88 93)), .inl (v36)]) (σ' := σ37) rfl ?_
            rw [show (sg_g σ37 88 93) = (sg_g σ 88 93) from by rw [sg_F_g hF38 rfl, sg_F_ga hF35 rfl, sg_F_g hF16 rfl, sg_F_g hF10 rfl, sg_F_ga hF3 rfl]]
            refine wk_if2 tt_249 (tgt := 206) rfl rfl r42 (sg_Rg _ _ _) (fun (h57 : (sg_g σ 88 93) ≤ v36) => ?_) (fun (h57 : v36 < (sg_g σ 88 93)) => ?_)
            ·
              have w := w.1 h57
              exact wk_ls [(0, .inr (.inr (.ref 88))), (1, .inl (a1)), (2, .inl (q8)), (3, .inl (v14))] rfl ⟨rfl, rfl, rfl, rfl, trivial⟩ (ex50  σ37  (sg_F_t (sg_F_r [142, 92088] σ33) (sg_F_m (L := [142, 92088]) hF38 rfl)) w)
            ·
              have w := w.2 h57
              refine wk_b tt_249 3 (pc' := 60) (ls' := [(0, .inr (.inr (.ref 88))), (1, .inl (a1)), (2, .inl (q8)), (3, .inl (v14)), (4, .inl (v36))]) (st' := [.inl (v36), .inr (.inr (.ref 143))]) (σ' := σ37) rfl ?_
              obtain ⟨c58, w⟩ := w
              refine wk_ia tt_249 rfl rfl c58.1 c58.2 r42 ?_
              rw [show (sg_g σ37 143 (v36)) = (sg_g σ 143 (v36)) from by rw [sg_F_ga hF38 rfl, sg_F_ga hF35 rfl, sg_F_ga hF16 rfl, sg_F_ga hF10 rfl, sg_F_ga hF3 rfl]]
              obtain ⟨P61, w, w64⟩ := w
              have jn60 : ∀ (σ62 : sg_S), sg_F [142, 92088] σ37 σ62 → P61 σ62 → wx z 2 249 88 [(0, .inr (.inr (.ref 88))), (1, .inl (a1)), (2, .inl (q8)), (3, .inl (v14)), (4, .inl (v36))] [] σ62 (fun v σ' => ∃ q, v = some (.inl q) ∧ sg_R q ∧ sg_F [139, 140, 141, 142, 144, 88088, 92088] σ σ' ∧ Q q σ') := by
                intro σ62 hF63 w
                have w := w64 σ62 hF63 w
                refine wk_b tt_249 3 (pc' := 94) (ls' := [(0, .inr (.inr (.ref 88))), (1, .inl (a1)), (2, .inl (q8)), (3, .inl (v14)), (4, .inl (v36))]) (st' := [.inl (v36), .inr (.inr (.ref 143))]) (σ' := σ62) rfl ?_
                refine wk_ia tt_249 rfl rfl c58.1 c58.2 r42 ?_
                rw [show (sg_g σ62 143 (v36)) = (sg_g σ 143 (v36)) from by rw [sg_F_ga hF63 rfl, sg_F_ga hF38 rfl, sg_F_ga hF35 rfl, sg_F_ga hF16 rfl, sg_F_ga hF10 rfl, sg_F_ga hF3 rfl]]
                obtain ⟨wp, w⟩ := w
                have jn66 : ∀ v67 : Int, v67 = (if 0 ≤ (sg_g σ 143 (v36)) then (sg_g σ2 144 (((13000 * v14) + (sg_g σ 143 (v36))))) else (0 : Int)) → sg_R v67 → wx z 2 249 120 [(0, .inr (.inr (.ref 88))), (1, .inl (a1)), (2, .inl (q8)), (3, .inl (v14)), (4, .inl (v36))] [.inl (v67)] σ62 (fun v σ' => ∃ q, v = some (.inl q) ∧ sg_R q ∧ sg_F [139, 140, 141, 142, 144, 88088, 92088] σ σ' ∧ Q q σ') := by
                  intro v67 e69 r68
                  have w := w v67 e69 r68
                  refine wk_b tt_249 1 (pc' := 122) (ls' := [(5, .inl (v67)), (0, .inr (.inr (.ref 88))), (1, .inl (a1)), (2, .inl (q8)), (3, .inl (v14)), (4, .inl (v36))]) (st' := []) (σ' := σ62) rfl ?_
                  obtain ⟨I73, X75, ⟨μ74, w80⟩, w81, w82⟩ := w
                  have ex84 : ∀ (σ71 : sg_S), sg_F [142, 92088] σ62 σ71 → X75 σ71 → wx z 2 249 200 [(0, .inr (.inr (.ref 88))), (1, .inl (a1)), (2, .inl (q8)), (3, .inl (v14)), (4, .inl (v36))] [] σ71 (fun v σ' => ∃ q, v = some (.inl q) ∧ sg_R q ∧ sg_F [139, 140, 141, 142, 144, 88088, 92088] σ σ' ∧ Q q σ') := by
                    intro σ71 hF72 w
                    have w := w82 σ71 hF72 w
                    obtain ⟨c85, w⟩ := w
                    refine wk_b tt_249 2 (pc' := 45) (ls' := [(4, .inl ((v36 + 1))), (0, .inr (.inr (.ref 88))), (1, .inl (a1)), (2, .inl (q8)), (3, .inl (v14))]) (st' := []) (σ' := σ71) rfl ?_
                    obtain ⟨m86, hm86, w⟩ := w
                    exact wk_ls [(0, .inr (.inr (.ref 88))), (1, .inl (a1)), (2, .inl (q8)), (3, .inl (v14)), (4, .inl ((v36 + 1)))] rfl ⟨rfl, rfl, rfl, rfl, rfl, trivial⟩ (ih43 m86 hm86 ((v36 + 1)) σ71 c85 (sg_F_t (sg_F_t (sg_F_t (sg_F_r [142, 92088] σ33) (sg_F_m (L := [142, 92088]) hF38 rfl)) (sg_F_m (L := [142, 92088]) hF63 rfl)) (sg_F_m (L := [142, 92088]) hF72 rfl)) w)
                  have lp79 : ∀ (n83 : Nat) (v70 : Int) (σ71 : sg_S), sg_R v70 → sg_F [142, 92088] σ62 σ71 → I73 n83 v70 σ71 → wx z 2 249 122 [(0, .inr (.inr (.ref 88))), (1, .inl (a1)), (2, .inl (q8)), (3, .inl (v14)), (4, .inl (v36)), (5, .inl (v70))] [] σ71 (fun v σ' => ∃ q, v = some (.inl q) ∧ sg_R q ∧ sg_F [139, 140, 141, 142, 144, 88088, 92088] σ σ' ∧ Q q σ') := by
                    intro n83
                    induction n83 using Nat.strongRecOn with
                    | _ n83 ih77 =>
                      intro v70 σ71 r76 hF72 w
                      have w := w81 n83 v70 σ71 r76 hF72 w
                      refine wk_b tt_249 3 (pc' := 128) (ls' := [(0, .inr (.inr (.ref 88))), (1, .inl (a1)), (2, .inl (q8)), (3, .inl (v14)), (4, .inl (v36)), (5, .inl (v70))]) (st' := [.inl (v36), .inr (.inr (.ref 143))]) (σ' := σ71) rfl ?_
                      refine wk_ia tt_249 rfl rfl c58.1 c58.2 r42 ?_
                      rw [show (sg_g σ71 143 (v36)) = (sg_g σ 143 (v36)) from by rw [sg_F_ga hF72 rfl, sg_F_ga hF63 rfl, sg_F_ga hF38 rfl, sg_F_ga hF35 rfl, sg_F_ga hF16 rfl, sg_F_ga hF10 rfl, sg_F_ga hF3 rfl]]
                      refine wk_if tt_249 (tgt := 200) rfl rfl (sg_Rg _ _ _) (fun (h87 : (sg_g σ 143 (v36)) < 0) => ?_) (fun (h87 : 0 ≤ (sg_g σ 143 (v36))) => ?_)
                      ·
                        have w := w.1 h87
                        exact wk_ls [(0, .inr (.inr (.ref 88))), (1, .inl (a1)), (2, .inl (q8)), (3, .inl (v14)), (4, .inl (v36))] rfl ⟨rfl, rfl, rfl, rfl, rfl, trivial⟩ (ex84  σ71  (sg_F_t (sg_F_r [142, 92088] σ62) (sg_F_m (L := [142, 92088]) hF72 rfl)) w)
                      ·
                        have w := w.2 h87
                        obtain ⟨c88, w⟩ := w
                        refine wk_b tt_249 9 (pc' := 149) (ls' := [(0, .inr (.inr (.ref 88))), (1, .inl (a1)), (2, .inl (q8)), (3, .inl (v14)), (4, .inl (v36)), (5, .inl (v70))]) (st' := [.inl (v36), .inr (.inr (.ref 143)), .inl ((13000 * v14)), .inr (.inr (.ref 144)), .inl (v70)]) (σ' := σ71) rfl ?_
                        refine wk_ia tt_249 rfl rfl c58.1 c58.2 r42 ?_
                        rw [show (sg_g σ71 143 (v36)) = (sg_g σ 143 (v36)) from by rw [sg_F_ga hF72 rfl, sg_F_ga hF63 rfl, sg_F_ga hF38 rfl, sg_F_ga hF35 rfl, sg_F_ga hF16 rfl, sg_F_ga hF10 rfl, sg_F_ga hF3 rfl]]
                        obtain ⟨c89, w⟩ := w
                        obtain ⟨c90, w⟩ := w
                        refine wk_b tt_249 3 (pc' := 153) (ls' := [(0, .inr (.inr (.ref 88))), (1, .inl (a1)), (2, .inl (q8)), (3, .inl (v14)), (4, .inl (v36)), (5, .inl (v70))]) (st' := [.inl ((((13000 * v14) + (sg_g σ 143 (v36))) + 1)), .inr (.inr (.ref 144)), .inl (v70)]) (σ' := σ71) rfl ?_
                        obtain ⟨c91, w⟩ := w
                        refine wk_ia tt_249 rfl rfl c91.1 c91.2 c90 ?_
                        rw [show (sg_g σ71 144 ((((13000 * v14) + (sg_g σ 143 (v36))) + 1))) = (sg_g σ2 144 ((((13000 * v14) + (sg_g σ 143 (v36))) + 1))) from by rw [sg_F_ga hF72 rfl, sg_F_ga hF63 rfl, sg_F_ga hF38 rfl, sg_F_ga hF35 rfl, sg_F_ga hF16 rfl, sg_F_ga hF10 rfl]]
                        refine wk_if2 tt_249 (tgt := 200) rfl rfl r76 (sg_Rg _ _ _) (fun (h92 : (sg_g σ2 144 ((((13000 * v14) + (sg_g σ 143 (v36))) + 1))) ≤ v70) => ?_) (fun (h92 : v70 < (sg_g σ2 144 ((((13000 * v14) + (sg_g σ 143 (v36))) + 1)))) => ?_)
                        ·
                          have w := w.1 h92
                          exact wk_ls [(0, .inr (.inr (.ref 88))), (1, .inl (a1)), (2, .inl (q8)), (3, .inl (v14)), (4, .inl (v36))] rfl ⟨rfl, rfl, rfl, rfl, rfl, trivial⟩ (ex84  σ71  (sg_F_t (sg_F_r [142, 92088] σ62) (sg_F_m (L := [142, 92088]) hF72 rfl)) w)
                        ·
                          have w := w.2 h92
                          obtain ⟨c93, w⟩ := w
                          obtain ⟨c94, w⟩ := w
                          refine wk_b tt_249 13 (pc' := 178) (ls' := [(0, .inr (.inr (.ref 88))), (1, .inl (a1)), (2, .inl (q8)), (3, .inl (v14)), (4, .inl (v36)), (5, .inl (v70))]) (st' := [.inl (((4 * a1) + v14)), .inr (.inr (.ref 140)), .inr (.inr (.ref 142)), .inl ((sg_g σ71 88 91)), .inr (.inr (.ref 142))]) (σ' := σ71) rfl ?_
                          obtain ⟨c95, w⟩ := w
                          refine wk_ia tt_249 rfl rfl c95.1 c95.2 c94 ?_
                          rw [show (sg_g σ71 140 (((4 * a1) + v14))) = (sg_g σ33 140 (((4 * a1) + v14))) from by rw [sg_F_ga hF72 rfl, sg_F_ga hF63 rfl, sg_F_ga hF38 rfl]]
                          obtain ⟨c96, w⟩ := w
                          refine wk_b tt_249 2 (pc' := 182) (ls' := [(0, .inr (.inr (.ref 88))), (1, .inl (a1)), (2, .inl (q8)), (3, .inl (v14)), (4, .inl (v36)), (5, .inl (v70))]) (st' := [.inl (((sg_g σ33 140 (((4 * a1) + v14))) + v70)), .inr (.inr (.ref 142)), .inl ((sg_g σ71 88 91)), .inr (.inr (.ref 142))]) (σ' := σ71) rfl ?_
                          obtain ⟨c97, w⟩ := w
                          refine wk_ia tt_249 rfl rfl c97.1 c97.2 c96 ?_
                          obtain ⟨c98, w⟩ := w
                          refine wk_is tt_249 rfl rfl c98.1 c98.2 (sg_Rg _ _ _) ?_
                          generalize hs100 : (sg_w σ71 142 ((sg_g σ71 88 91)) ((sg_g σ71 142 (((sg_g σ33 140 (((4 * a1) + v14))) + v70))))) = σ99
                          have w := w σ99 hs100.symm
                          have hF101 : sg_F [142] σ71 σ99 := by rw [← hs100]; exact sg_F_w (sg_F_r _ _) rfl _
                          obtain ⟨c102, w⟩ := w
                          refine wk_b tt_249 6 (pc' := 194) (ls' := [(0, .inr (.inr (.ref 88))), (1, .inl (a1)), (2, .inl (q8)), (3, .inl (v14)), (4, .inl (v36)), (5, .inl (v70))]) (st' := []) (σ' := (sg_w σ99 88 91 (((sg_g σ99 88 91) + 1)))) rfl ?_
                          rw [show (sg_g σ99 88 91) = (sg_g σ71 88 91) from by rw [sg_F_ga hF101 rfl]]
                          generalize hs104 : (sg_w σ99 88 91 (((sg_g σ71 88 91) + 1))) = σ103
                          have w := w σ103 hs104.symm
                          have hF105 : sg_F [92088] σ99 σ103 := by rw [← hs104]; exact sg_F_w (sg_F_r _ _) rfl _
                          obtain ⟨c106, w⟩ := w
                          refine wk_b tt_249 2 (pc' := 122) (ls' := [(5, .inl ((v70 + 1))), (0, .inr (.inr (.ref 88))), (1, .inl (a1)), (2, .inl (q8)), (3, .inl (v14)), (4, .inl (v36))]) (st' := []) (σ' := σ103) rfl ?_
                          obtain ⟨m107, hm107, w⟩ := w
                          exact wk_ls [(0, .inr (.inr (.ref 88))), (1, .inl (a1)), (2, .inl (q8)), (3, .inl (v14)), (4, .inl (v36)), (5, .inl ((v70 + 1)))] rfl ⟨rfl, rfl, rfl, rfl, rfl, rfl, trivial⟩ (ih77 m107 hm107 ((v70 + 1)) σ103 c106 (sg_F_t (sg_F_t (sg_F_t (sg_F_r [142, 92088] σ62) (sg_F_m (L := [142, 92088]) hF72 rfl)) (sg_F_m (L := [142, 92088]) hF101 rfl)) (sg_F_m (L := [142, 92088]) hF105 rfl)) w)
                  exact wk_ls [(0, .inr (.inr (.ref 88))), (1, .inl (a1)), (2, .inl (q8)), (3, .inl (v14)), (4, .inl (v36)), (5, .inl (v67))] rfl ⟨rfl, rfl, rfl, rfl, rfl, rfl, trivial⟩ (lp79 μ74 (v67) σ62 r68 (sg_F_r _ _) w80)
                have w := wp
                refine wk_if tt_249 (tgt := 102) rfl rfl (sg_Rg _ _ _) (fun (h65 : 0 ≤ (sg_g σ 143 (v36))) => ?_) (fun (h65 : (sg_g σ 143 (v36)) < 0) => ?_)
                ·
                  have w := w.1 h65
                  obtain ⟨c108, w⟩ := w
                  refine wk_b tt_249 8 (pc' := 117) (ls' := [(0, .inr (.inr (.ref 88))), (1, .inl (a1)), (2, .inl (q8)), (3, .inl (v14)), (4, .inl (v36))]) (st' := [.inl (v36), .inr (.inr (.ref 143)), .inl ((13000 * v14)), .inr (.inr (.ref 144))]) (σ' := σ62) rfl ?_
                  refine wk_ia tt_249 rfl rfl c58.1 c58.2 r42 ?_
                  rw [show (sg_g σ62 143 (v36)) = (sg_g σ 143 (v36)) from by rw [sg_F_ga hF63 rfl, sg_F_ga hF38 rfl, sg_F_ga hF35 rfl, sg_F_ga hF16 rfl, sg_F_ga hF10 rfl, sg_F_ga hF3 rfl]]
                  obtain ⟨c109, w⟩ := w
                  refine wk_b tt_249 1 (pc' := 119) (ls' := [(0, .inr (.inr (.ref 88))), (1, .inl (a1)), (2, .inl (q8)), (3, .inl (v14)), (4, .inl (v36))]) (st' := [.inl (((13000 * v14) + (sg_g σ 143 (v36)))), .inr (.inr (.ref 144))]) (σ' := σ62) rfl ?_
                  obtain ⟨c110, w⟩ := w
                  refine wk_ia tt_249 rfl rfl c110.1 c110.2 c109 ?_
                  rw [show (sg_g σ62 144 (((13000 * v14) + (sg_g σ 143 (v36))))) = (sg_g σ2 144 (((13000 * v14) + (sg_g σ 143 (v36))))) from by rw [sg_F_ga hF63 rfl, sg_F_ga hF38 rfl, sg_F_ga hF35 rfl, sg_F_ga hF16 rfl, sg_F_ga hF10 rfl]]
                  exact wk_ls [(0, .inr (.inr (.ref 88))), (1, .inl (a1)), (2, .inl (q8)), (3, .inl (v14)), (4, .inl (v36))] rfl ⟨rfl, rfl, rfl, rfl, rfl, trivial⟩ (jn66 ((sg_g σ2 144 (((13000 * v14) + (sg_g σ 143 (v36)))))) (by simp only [if_pos h65]) (sg_Rg _ _ _))
                ·
                  have w := w.2 h65
                  refine wk_b tt_249 2 (pc' := 120) (ls' := [(0, .inr (.inr (.ref 88))), (1, .inl (a1)), (2, .inl (q8)), (3, .inl (v14)), (4, .inl (v36))]) (st' := [.inl (0)]) (σ' := σ62) rfl ?_
                  exact wk_ls [(0, .inr (.inr (.ref 88))), (1, .inl (a1)), (2, .inl (q8)), (3, .inl (v14)), (4, .inl (v36))] rfl ⟨rfl, rfl, rfl, rfl, rfl, trivial⟩ (jn66 (0) (by simp only [if_neg (show ¬ (0 ≤ (sg_g σ 143 (v36))) by omega)]) (by decide))
              refine wk_if tt_249 (tgt := 88) rfl rfl (sg_Rg _ _ _) (fun (h59 : 0 ≤ (sg_g σ 143 (v36))) => ?_) (fun (h59 : (sg_g σ 143 (v36)) < 0) => ?_)
              ·
                have w := w.1 h59
                exact wk_ls [(0, .inr (.inr (.ref 88))), (1, .inl (a1)), (2, .inl (q8)), (3, .inl (v14)), (4, .inl (v36))] rfl ⟨rfl, rfl, rfl, rfl, rfl, trivial⟩ (jn60 σ37 (sg_F_r [142, 92088] σ37) w)
              ·
                have w := w.2 h59
                refine wk_b tt_249 1 (pc' := 65) (ls' := [(0, .inr (.inr (.ref 88))), (1, .inl (a1)), (2, .inl (q8)), (3, .inl (v14)), (4, .inl (v36))]) (st' := [.inl (v14)]) (σ' := σ37) rfl ?_
                refine wk_if tt_249 (tgt := 88) rfl rfl r20 (fun (h111 : ¬ v14 = 0) => ?_) (fun (h111 : v14 = 0) => ?_)
                ·
                  have w := w.1 h111
                  exact wk_ls [(0, .inr (.inr (.ref 88))), (1, .inl (a1)), (2, .inl (q8)), (3, .inl (v14)), (4, .inl (v36))] rfl ⟨rfl, rfl, rfl, rfl, rfl, trivial⟩ (jn60 σ37 (sg_F_r [142, 92088] σ37) w)
                ·
                  have w := w.2 h111
                  refine wk_b tt_249 5 (pc' := 77) (ls' := [(0, .inr (.inr (.ref 88))), (1, .inl (a1)), (2, .inl (q8)), (3, .inl (v14)), (4, .inl (v36))]) (st' := [.inl (0), .inl ((sg_g σ37 88 91)), .inr (.inr (.ref 142))]) (σ' := σ37) rfl ?_
                  obtain ⟨c112, w⟩ := w
                  refine wk_is tt_249 rfl rfl c112.1 c112.2 (sg_Rg _ _ _) ?_
                  generalize hs114 : (sg_w σ37 142 ((sg_g σ37 88 91)) (0)) = σ113
                  have w := w σ113 hs114.symm
                  have hF115 : sg_F [142] σ37 σ113 := by rw [← hs114]; exact sg_F_w (sg_F_r _ _) rfl _
                  obtain ⟨c116, w⟩ := w
                  refine wk_b tt_249 6 (pc' := 88) (ls' := [(0, .inr (.inr (.ref 88))), (1, .inl (a1)), (2, .inl (q8)), (3, .inl (v14)), (4, .inl (v36))]) (st' := []) (σ' := (sg_w σ113 88 91 (((sg_g σ113 88 91) + 1)))) rfl ?_
                  rw [show (sg_g σ113 88 91) = (sg_g σ37 88 91) from by rw [sg_F_ga hF115 rfl]]
                  generalize hs118 : (sg_w σ113 88 91 (((sg_g σ37 88 91) + 1))) = σ117
                  have w := w σ117 hs118.symm
                  have hF119 : sg_F [92088] σ113 σ117 := by rw [← hs118]; exact sg_F_w (sg_F_r _ _) rfl _
                  exact wk_ls [(0, .inr (.inr (.ref 88))), (1, .inl (a1)), (2, .inl (q8)), (3, .inl (v14)), (4, .inl (v36))] rfl ⟨rfl, rfl, rfl, rfl, rfl, trivial⟩ (jn60 σ117 (sg_F_t (sg_F_t (sg_F_r [142, 92088] σ37) (sg_F_m (L := [142, 92088]) hF115 rfl)) (sg_F_m (L := [142, 92088]) hF119 rfl)) w)
        exact wk_ls [(0, .inr (.inr (.ref 88))), (1, .inl (a1)), (2, .inl (q8)), (3, .inl (v14)), (4, .inl (0))] rfl ⟨rfl, rfl, rfl, rfl, rfl, trivial⟩ (lp45 μ40 (0) σ33 (by decide) (sg_F_r _ _) w46)
  exact wk_ls [(0, .inr (.inr (.ref 88))), (1, .inl (a1)), (2, .inl (q8)), (3, .inl (0))] rfl ⟨rfl, rfl, rfl, rfl, trivial⟩ (lp23 μ18 (0) σ9 (by decide) (sg_F_r _ _) w24)
-- NestedVectorsModel.carried
def V_carried (σ : sg_S) (Q : Int → sg_S → Prop) : Prop := (∃ (I4 : Nat → Int → sg_S → Prop) (X6 : sg_S → Prop), (∃ n, I4 n (0) σ) ∧ (∀ (n14 : Nat) (v1 : Int) (σ2 : sg_S), sg_R v1 → sg_F [134, 139, 140, 141, 142, 144, 148, 149, 74088, 85088, 86088, 88088, 92088, 100088] σ σ2 → I4 n14 v1 σ2 → (((sg_g σ 88 46) ≤ v1 → X6 σ2) ∧ (v1 < (sg_g σ 88 46) → (0 ≤ v1 ∧ v1 < 300) ∧ (0 ≤ (sg_g σ 119 (v1)) ∧ (sg_g σ 119 (v1)) < 1200) ∧ V_extentOfLanes σ2 ((sg_g σ2 134 ((sg_g σ 119 (v1))))) (fun q19 σ20 => sg_RL q19 → sg_F [144] σ2 σ20 → V_stepped σ20 (q19) (fun q25 σ26 => (q25 = 0 ∨ q25 = 1) → sg_F [74088, 85088, 86088] σ20 σ26 → ((¬ q25 = 0 → (0 ≤ (sg_g σ2 88 99) ∧ (sg_g σ2 88 99) < 12000) ∧ ∀ σ33, σ33 = (sg_w σ26 148 ((sg_g σ2 88 99)) ((sg_g σ 119 (v1)))) → ∀ σ36, σ36 = (sg_w σ33 149 ((sg_g σ2 88 99)) ((sg_g σ2 134 ((sg_g σ 119 (v1)))))) → sg_R ((sg_g σ2 88 99) + 1) ∧ ∀ σ40, σ40 = (sg_w σ36 88 99 (((sg_g σ2 88 99) + 1))) → V_gathered σ40 ((sg_g σ2 134 ((sg_g σ 119 (v1))))) (fun q43 σ44 => sg_R q43 → sg_F [139, 140, 141, 142, 144, 88088, 92088] σ40 σ44 → ∀ σ49, σ49 = (sg_w σ44 134 ((sg_g σ 119 (v1))) (q43)) → sg_R (v1 + 1) ∧ (∃ m, m < n14 ∧ I4 m ((v1 + 1)) σ49))) ∧ (q25 = 0 → Q (0) σ26))))))) ∧ (∀ (σ2 : sg_S), sg_F [134, 139, 140, 141, 142, 144, 148, 149, 74088, 85088, 86088, 88088, 92088, 100088] σ σ2 → X6 σ2 → Q (1) σ2))
set_option maxHeartbeats 4000000 in
set_option maxRecDepth 8000 in
theorem w_carried (z : Value) (σ : sg_S) (Q : Int → sg_S → Prop)  (w : V_carried σ  Q) : wx z 3 217 0 [(0, .inr (.inr (.ref 88)))] [] σ (fun v σ' => ∃ q, v = some (.inl q) ∧ (q = 0 ∨ q = 1) ∧ sg_F [134, 139, 140, 141, 142, 144, 148, 149, 74088, 85088, 86088, 88088, 92088, 100088] σ σ' ∧ Q q σ') := by
  unfold V_carried at w
  refine wk_b tt_217 2 (pc' := 2) (ls' := [(1, .inl (0)), (0, .inr (.inr (.ref 88)))]) (st' := []) (σ' := σ) rfl ?_
  obtain ⟨I4, X6, ⟨μ5, w11⟩, w12, w13⟩ := w
  have ex15 : ∀ (σ2 : sg_S), sg_F [134, 139, 140, 141, 142, 144, 148, 149, 74088, 85088, 86088, 88088, 92088, 100088] σ σ2 → X6 σ2 → wx z 3 217 93 [] [] σ2 (fun v σ' => ∃ q, v = some (.inl q) ∧ (q = 0 ∨ q = 1) ∧ sg_F [134, 139, 140, 141, 142, 144, 148, 149, 74088, 85088, 86088, 88088, 92088, 100088] σ σ' ∧ Q q σ') := by
    intro σ2 hF3 w
    have w := w13 σ2 hF3 w
    refine wk_b tt_217 1 (pc' := 94) (ls' := []) (st' := [.inl (1)]) (σ' := σ2) rfl ?_
    exact wk_rZ tt_217 rfl rfl (by decide) ⟨_, rfl, (by decide), (sg_F_t (sg_F_r [134, 139, 140, 141, 142, 144, 148, 149, 74088, 85088, 86088, 88088, 92088, 100088] σ) (sg_F_m (L := [134, 139, 140, 141, 142, 144, 148, 149, 74088, 85088, 86088, 88088, 92088, 100088]) hF3 rfl)), w⟩
  have lp10 : ∀ (n14 : Nat) (v1 : Int) (σ2 : sg_S), sg_R v1 → sg_F [134, 139, 140, 141, 142, 144, 148, 149, 74088, 85088, 86088, 88088, 92088, 100088] σ σ2 → I4 n14 v1 σ2 → wx z 3 217 2 [(0, .inr (.inr (.ref 88))), (1, .inl (v1))] [] σ2 (fun v σ' => ∃ q, v = some (.inl q) ∧ (q = 0 ∨ q = 1) ∧ sg_F [134, 139, 140, 141, 142, 144, 148, 149, 74088, 85088, 86088, 88088, 92088, 100088] σ σ' ∧ Q q σ') := by
    intro n14
    induction n14 using Nat.strongRecOn with
    | _ n14 ih8 =>
      intro v1 σ2 r7 hF3 w
      have w := w12 n14 v1 σ2 r7 hF3 w
      refine wk_b tt_217 3 (pc' := 7) (ls' := [(0, .inr (.inr (.ref 88))), (1, .inl (v1))]) (st' := [.inl ((sg_g σ2 88 46)), .inl (v1)]) (σ' := σ2) rfl ?_
      rw [show (sg_g σ2 88 46) = (sg_g σ 88 46) from by rw [sg_F_g hF3 rfl]]
      refine wk_if2 tt_217 (tgt := 93) rfl rfl r7 (sg_Rg _ _ _) (fun (h16 : (sg_g σ 88 46) ≤ v1) => ?_) (fun (h16 : v1 < (sg_g σ 88 46)) => ?_)
      ·
        have w := w.1 h16
        exact wk_ls [] rfl trivial (ex15  σ2  (sg_F_t (sg_F_r [134, 139, 140, 141, 142, 144, 148, 149, 74088, 85088, 86088, 88088, 92088, 100088] σ) (sg_F_m (L := [134, 139, 140, 141, 142, 144, 148, 149, 74088, 85088, 86088, 88088, 92088, 100088]) hF3 rfl)) w)
      ·
        have w := w.2 h16
        refine wk_b tt_217 3 (pc' := 15) (ls' := [(0, .inr (.inr (.ref 88))), (1, .inl (v1))]) (st' := [.inl (v1), .inr (.inr (.ref 119))]) (σ' := σ2) rfl ?_
        obtain ⟨c17, w⟩ := w
        refine wk_ia tt_217 rfl rfl c17.1 c17.2 r7 ?_
        rw [show (sg_g σ2 119 (v1)) = (sg_g σ 119 (v1)) from by rw [sg_F_ga hF3 rfl]]
        refine wk_b tt_217 6 (pc' := 24) (ls' := [(2, .inl ((sg_g σ 119 (v1)))), (0, .inr (.inr (.ref 88))), (1, .inl (v1))]) (st' := [.inl ((sg_g σ 119 (v1))), .inr (.inr (.ref 134)), .inr (.inr (.ref 88)), .inr (.inr (.ref 88))]) (σ' := σ2) rfl ?_
        obtain ⟨c18, w⟩ := w
        refine wk_ia tt_217 rfl rfl c18.1 c18.2 (sg_Rg _ _ _) ?_
        refine wk_call tt_217 rfl rfl rfl rfl rfl tt_227 rfl (by decide) (w_extentOfLanes z σ2 ((sg_g σ2 134 ((sg_g σ 119 (v1))))) _ (sg_Rg _ _ _) w) (fun u24 σ20 hq22 => ?_)
        obtain ⟨q19, rfl, r23, hF21, w⟩ := hq22
        have w := w r23 hF21
        refine wk_call tt_217 rfl rfl rfl rfl rfl tt_329 rfl (by decide) (w_stepped z σ20 (q19) _ r23 w) (fun u30 σ26 hq28 => ?_)
        obtain ⟨q25, rfl, r29, hF27, w⟩ := hq28
        have w := w r29 hF27
        refine wk_if tt_217 (tgt := 36) rfl rfl (sg_Rz r29) (fun (h31 : ¬ q25 = 0) => ?_) (fun (h31 : q25 = 0) => ?_)
        ·
          have w := w.1 h31
          refine wk_b tt_217 5 (pc' := 45) (ls' := [(2, .inl ((sg_g σ 119 (v1)))), (0, .inr (.inr (.ref 88))), (1, .inl (v1))]) (st' := [.inl ((sg_g σ 119 (v1))), .inl ((sg_g σ26 88 99)), .inr (.inr (.ref 148))]) (σ' := σ26) rfl ?_
          rw [show (sg_g σ26 88 99) = (sg_g σ2 88 99) from by rw [sg_F_g hF27 rfl, sg_F_ga hF21 rfl]]
          obtain ⟨c32, w⟩ := w
          refine wk_is tt_217 rfl rfl c32.1 c32.2 (sg_Rg _ _ _) ?_
          generalize hs34 : (sg_w σ26 148 ((sg_g σ2 88 99)) ((sg_g σ 119 (v1)))) = σ33
          have w := w σ33 hs34.symm
          have hF35 : sg_F [148] σ26 σ33 := by rw [← hs34]; exact sg_F_w (sg_F_r _ _) rfl _
          refine wk_b tt_217 7 (pc' := 59) (ls' := [(2, .inl ((sg_g σ 119 (v1)))), (0, .inr (.inr (.ref 88))), (1, .inl (v1))]) (st' := [.inl ((sg_g σ 119 (v1))), .inr (.inr (.ref 134)), .inl ((sg_g σ33 88 99)), .inr (.inr (.ref 149))]) (σ' := σ33) rfl ?_
          rw [show (sg_g σ33 88 99) = (sg_g σ2 88 99) from by rw [sg_F_ga hF35 rfl, sg_F_g hF27 rfl, sg_F_ga hF21 rfl]]
          refine wk_ia tt_217 rfl rfl c18.1 c18.2 (sg_Rg _ _ _) ?_
          rw [show (sg_g σ33 134 ((sg_g σ 119 (v1)))) = (sg_g σ2 134 ((sg_g σ 119 (v1)))) from by rw [sg_F_ga hF35 rfl, sg_F_ga hF27 rfl, sg_F_ga hF21 rfl]]
          refine wk_is tt_217 rfl rfl c32.1 c32.2 (sg_Rg _ _ _) ?_
          generalize hs37 : (sg_w σ33 149 ((sg_g σ2 88 99)) ((sg_g σ2 134 ((sg_g σ 119 (v1)))))) = σ36
          have w := w σ36 hs37.symm
          have hF38 : sg_F [149] σ33 σ36 := by rw [← hs37]; exact sg_F_w (sg_F_r _ _) rfl _
          obtain ⟨c39, w⟩ := w
          refine wk_b tt_217 6 (pc' := 71) (ls' := [(2, .inl ((sg_g σ 119 (v1)))), (0, .inr (.inr (.ref 88))), (1, .inl (v1))]) (st' := []) (σ' := (sg_w σ36 88 99 (((sg_g σ36 88 99) + 1)))) rfl ?_
          rw [show (sg_g σ36 88 99) = (sg_g σ2 88 99) from by rw [sg_F_ga hF38 rfl, sg_F_ga hF35 rfl, sg_F_g hF27 rfl, sg_F_ga hF21 rfl]]
          generalize hs41 : (sg_w σ36 88 99 (((sg_g σ2 88 99) + 1))) = σ40
          have w := w σ40 hs41.symm
          have hF42 : sg_F [100088] σ36 σ40 := by rw [← hs41]; exact sg_F_w (sg_F_r _ _) rfl _
          refine wk_b tt_217 7 (pc' := 82) (ls' := [(2, .inl ((sg_g σ 119 (v1)))), (0, .inr (.inr (.ref 88))), (1, .inl (v1))]) (st' := [.inl ((sg_g σ 119 (v1))), .inr (.inr (.ref 134)), .inr (.inr (.ref 88)), .inl ((sg_g σ 119 (v1))), .inr (.inr (.ref 134))]) (σ' := σ40) rfl ?_
          refine wk_ia tt_217 rfl rfl c18.1 c18.2 (sg_Rg _ _ _) ?_
          rw [show (sg_g σ40 134 ((sg_g σ 119 (v1)))) = (sg_g σ2 134 ((sg_g σ 119 (v1)))) from by rw [sg_F_ga hF42 rfl, sg_F_ga hF38 rfl, sg_F_ga hF35 rfl, sg_F_ga hF27 rfl, sg_F_ga hF21 rfl]]
          refine wk_call tt_217 rfl rfl rfl rfl rfl tt_249 rfl (by decide) (w_gathered z σ40 ((sg_g σ2 134 ((sg_g σ 119 (v1))))) _ (sg_Rg _ _ _) w) (fun u48 σ44 hq46 => ?_)
          obtain ⟨q43, rfl, r47, hF45, w⟩ := hq46
          have w := w r47 hF45
          refine wk_is tt_217 rfl rfl c18.1 c18.2 (sg_Rg _ _ _) ?_
          generalize hs50 : (sg_w σ44 134 ((sg_g σ 119 (v1))) (q43)) = σ49
          have w := w σ49 hs50.symm
          have hF51 : sg_F [134] σ44 σ49 := by rw [← hs50]; exact sg_F_w (sg_F_r _ _) rfl _
          obtain ⟨c52, w⟩ := w
          refine wk_b tt_217 2 (pc' := 2) (ls' := [(1, .inl ((v1 + 1))), (2, .inl ((sg_g σ 119 (v1)))), (0, .inr (.inr (.ref 88)))]) (st' := []) (σ' := σ49) rfl ?_
          obtain ⟨m53, hm53, w⟩ := w
          exact wk_ls [(0, .inr (.inr (.ref 88))), (1, .inl ((v1 + 1)))] rfl ⟨rfl, rfl, trivial⟩ (ih8 m53 hm53 ((v1 + 1)) σ49 c52 (sg_F_t (sg_F_t (sg_F_t (sg_F_t (sg_F_t (sg_F_t (sg_F_t (sg_F_t (sg_F_r [134, 139, 140, 141, 142, 144, 148, 149, 74088, 85088, 86088, 88088, 92088, 100088] σ) (sg_F_m (L := [134, 139, 140, 141, 142, 144, 148, 149, 74088, 85088, 86088, 88088, 92088, 100088]) hF3 rfl)) (sg_F_m (L := [134, 139, 140, 141, 142, 144, 148, 149, 74088, 85088, 86088, 88088, 92088, 100088]) hF21 rfl)) (sg_F_m (L := [134, 139, 140, 141, 142, 144, 148, 149, 74088, 85088, 86088, 88088, 92088, 100088]) hF27 rfl)) (sg_F_m (L := [134, 139, 140, 141, 142, 144, 148, 149, 74088, 85088, 86088, 88088, 92088, 100088]) hF35 rfl)) (sg_F_m (L := [134, 139, 140, 141, 142, 144, 148, 149, 74088, 85088, 86088, 88088, 92088, 100088]) hF38 rfl)) (sg_F_m (L := [134, 139, 140, 141, 142, 144, 148, 149, 74088, 85088, 86088, 88088, 92088, 100088]) hF42 rfl)) (sg_F_m (L := [134, 139, 140, 141, 142, 144, 148, 149, 74088, 85088, 86088, 88088, 92088, 100088]) hF45 rfl)) (sg_F_m (L := [134, 139, 140, 141, 142, 144, 148, 149, 74088, 85088, 86088, 88088, 92088, 100088]) hF51 rfl)) w)
        ·
          have w := w.2 h31
          refine wk_b tt_217 1 (pc' := 35) (ls' := [(2, .inl ((sg_g σ 119 (v1)))), (0, .inr (.inr (.ref 88))), (1, .inl (v1))]) (st' := [.inl (0)]) (σ' := σ26) rfl ?_
          exact wk_rZ tt_217 rfl rfl (by decide) ⟨_, rfl, (by decide), (sg_F_t (sg_F_t (sg_F_t (sg_F_r [134, 139, 140, 141, 142, 144, 148, 149, 74088, 85088, 86088, 88088, 92088, 100088] σ) (sg_F_m (L := [134, 139, 140, 141, 142, 144, 148, 149, 74088, 85088, 86088, 88088, 92088, 100088]) hF3 rfl)) (sg_F_m (L := [134, 139, 140, 141, 142, 144, 148, 149, 74088, 85088, 86088, 88088, 92088, 100088]) hF21 rfl)) (sg_F_m (L := [134, 139, 140, 141, 142, 144, 148, 149, 74088, 85088, 86088, 88088, 92088, 100088]) hF27 rfl)), w⟩
  exact wk_ls [(0, .inr (.inr (.ref 88))), (1, .inl (0))] rfl ⟨rfl, rfl, trivial⟩ (lp10 μ5 (0) σ (by decide) (sg_F_r _ _) w11)
