/-! Conditions of the reference's methods, by program (38). -/
-- NestedVectorsModel.showNested
def V_showNested (σ : sg_S) (Q : sg_S → Prop) : Prop := ∀ σ1, σ1 = (sg_w σ 88 78 (0)) → ((¬ (sg_g σ 88 53) = 0 → ((¬ (sg_g σ 88 53) = 0 → ∀ σ6, σ6 = (sg_w σ1 88 76 (0)) → Q σ6) ∧ ((sg_g σ 88 53) = 0 → ∀ σ9, σ9 = (sg_w σ1 137 (0) ((sg_g σ 133 (0)))) → ∀ σ12, σ12 = (sg_w σ9 138 (0) (0)) → V_show σ12 (91) (fun σ16 => sg_F [136, 79088] σ12 σ16 → (∃ (I24 : Nat → Int → sg_S → Prop) (X26 : sg_S → Prop), (∃ n, I24 n (1) σ16) ∧ (∀ (n34 : Nat) (v21 : Int) (σ22 : sg_S), sg_R v21 → sg_F [136, 137, 138, 79088] σ16 σ22 → I24 n34 v21 σ22 → ((v21 ≤ 0 → X26 σ22) ∧ (0 < v21 → sg_R (v21 - 1) ∧ (0 ≤ (v21 - 1) ∧ (v21 - 1) < 4) ∧ (0 ≤ (sg_g σ22 137 ((v21 - 1))) ∧ (sg_g σ22 137 ((v21 - 1))) < 9000) ∧ (∃ P45 : Int → sg_S → Prop, ((¬ (sg_g σ22 138 ((v21 - 1))) = (sg_g σ 123 ((sg_g σ22 137 ((v21 - 1))))) → (∃ P54 : sg_S → Prop, (((sg_g σ22 138 ((v21 - 1))) ≤ 0 → P54 σ22) ∧ (0 < (sg_g σ22 138 ((v21 - 1))) → V_show σ22 (44) (fun σ87 => sg_F [136, 79088] σ22 σ87 → P54 σ87))) ∧ (∀ (σ55 : sg_S), sg_F [136, 79088] σ22 σ55 → P54 σ55 → p_itemAt σ ((sg_g σ22 137 ((v21 - 1)))) ((sg_g σ22 138 ((v21 - 1)))) ∧ sg_R ((sg_g σ22 138 ((v21 - 1))) + 1) ∧ ∀ σ61, σ61 = (sg_w σ55 138 ((v21 - 1)) (((sg_g σ22 138 ((v21 - 1))) + 1))) → (0 ≤ (sg_g σ 88 27) ∧ (sg_g σ 88 27) < 210) ∧ ((¬ v21 = (sg_g σ 101 ((sg_g σ 88 27))) → (0 ≤ v21 ∧ v21 < 4) ∧ ∀ σ67, σ67 = (sg_w σ61 137 (v21) ((v_itemAt σ ((sg_g σ22 137 ((v21 - 1)))) ((sg_g σ22 138 ((v21 - 1))))))) → ∀ σ70, σ70 = (sg_w σ67 138 (v21) (0)) → V_show σ70 (91) (fun σ74 => sg_F [136, 79088] σ70 σ74 → sg_R (v21 + 1) ∧ P45 ((v21 + 1)) σ74)) ∧ (v21 = (sg_g σ 101 ((sg_g σ 88 27))) → V_showNumber σ61 ((v_itemAt σ ((sg_g σ22 137 ((v21 - 1)))) ((sg_g σ22 138 ((v21 - 1)))))) (fun σ81 => sg_F [136, 79088] σ61 σ81 → P45 (v21) σ81)))))) ∧ ((sg_g σ22 138 ((v21 - 1))) = (sg_g σ 123 ((sg_g σ22 137 ((v21 - 1))))) → V_show σ22 (93) (fun σ93 => sg_F [136, 79088] σ22 σ93 → sg_R (v21 + (-1)) ∧ P45 ((v21 + (-1))) σ93))) ∧ (∀ (v48 : Int) (σ46 : sg_S), sg_R v48 → sg_F [136, 137, 138, 79088] σ22 σ46 → P45 v48 σ46 → (∃ m, m < n34 ∧ I24 m (v48) σ46)))))) ∧ (∀ (σ22 : sg_S), sg_F [136, 137, 138, 79088] σ16 σ22 → X26 σ22 → ∀ σ36, σ36 = (sg_w σ22 88 76 ((sg_g σ22 88 78))) → Q σ36)))))) ∧ ((sg_g σ 88 53) = 0 → (0 ≤ (sg_g σ 88 27) ∧ (sg_g σ 88 27) < 210) ∧ ((¬ (sg_g σ 101 ((sg_g σ 88 27))) = 0 → ((¬ (sg_g σ 88 53) = 0 → ∀ σ102, σ102 = (sg_w σ1 88 76 (0)) → Q σ102) ∧ ((sg_g σ 88 53) = 0 → ∀ σ105, σ105 = (sg_w σ1 137 (0) ((sg_g σ 133 (0)))) → ∀ σ108, σ108 = (sg_w σ105 138 (0) (0)) → V_show σ108 (91) (fun σ112 => sg_F [136, 79088] σ108 σ112 → (∃ (I120 : Nat → Int → sg_S → Prop) (X122 : sg_S → Prop), (∃ n, I120 n (1) σ112) ∧ (∀ (n130 : Nat) (v117 : Int) (σ118 : sg_S), sg_R v117 → sg_F [136, 137, 138, 79088] σ112 σ118 → I120 n130 v117 σ118 → ((v117 ≤ 0 → X122 σ118) ∧ (0 < v117 → sg_R (v117 - 1) ∧ (0 ≤ (v117 - 1) ∧ (v117 - 1) < 4) ∧ (0 ≤ (sg_g σ118 137 ((v117 - 1))) ∧ (sg_g σ118 137 ((v117 - 1))) < 9000) ∧ (∃ P141 : Int → sg_S → Prop, ((¬ (sg_g σ118 138 ((v117 - 1))) = (sg_g σ 123 ((sg_g σ118 137 ((v117 - 1))))) → (∃ P150 : sg_S → Prop, (((sg_g σ118 138 ((v117 - 1))) ≤ 0 → P150 σ118) ∧ (0 < (sg_g σ118 138 ((v117 - 1))) → V_show σ118 (44) (fun σ182 => sg_F [136, 79088] σ118 σ182 → P150 σ182))) ∧ (∀ (σ151 : sg_S), sg_F [136, 79088] σ118 σ151 → P150 σ151 → p_itemAt σ ((sg_g σ118 137 ((v117 - 1)))) ((sg_g σ118 138 ((v117 - 1)))) ∧ sg_R ((sg_g σ118 138 ((v117 - 1))) + 1) ∧ ∀ σ157, σ157 = (sg_w σ151 138 ((v117 - 1)) (((sg_g σ118 138 ((v117 - 1))) + 1))) → ((¬ v117 = (sg_g σ 101 ((sg_g σ 88 27))) → (0 ≤ v117 ∧ v117 < 4) ∧ ∀ σ162, σ162 = (sg_w σ157 137 (v117) ((v_itemAt σ ((sg_g σ118 137 ((v117 - 1)))) ((sg_g σ118 138 ((v117 - 1))))))) → ∀ σ165, σ165 = (sg_w σ162 138 (v117) (0)) → V_show σ165 (91) (fun σ169 => sg_F [136, 79088] σ165 σ169 → sg_R (v117 + 1) ∧ P141 ((v117 + 1)) σ169)) ∧ (v117 = (sg_g σ 101 ((sg_g σ 88 27))) → V_showNumber σ157 ((v_itemAt σ ((sg_g σ118 137 ((v117 - 1)))) ((sg_g σ118 138 ((v117 - 1)))))) (fun σ176 => sg_F [136, 79088] σ157 σ176 → P141 (v117) σ176)))))) ∧ ((sg_g σ118 138 ((v117 - 1))) = (sg_g σ 123 ((sg_g σ118 137 ((v117 - 1))))) → V_show σ118 (93) (fun σ188 => sg_F [136, 79088] σ118 σ188 → sg_R (v117 + (-1)) ∧ P141 ((v117 + (-1))) σ188))) ∧ (∀ (v144 : Int) (σ142 : sg_S), sg_R v144 → sg_F [136, 137, 138, 79088] σ118 σ142 → P141 v144 σ142 → (∃ m, m < n130 ∧ I120 m (v144) σ142)))))) ∧ (∀ (σ118 : sg_S), sg_F [136, 137, 138, 79088] σ112 σ118 → X122 σ118 → ∀ σ132, σ132 = (sg_w σ118 88 76 ((sg_g σ118 88 78))) → Q σ132)))))) ∧ ((sg_g σ 101 ((sg_g σ 88 27))) = 0 → V_showNumber σ1 ((sg_g σ 133 (0))) (fun σ195 => sg_F [136, 79088] σ1 σ195 → ∀ σ200, σ200 = (sg_w σ195 88 76 ((sg_g σ195 88 78))) → Q σ200)))))
set_option maxHeartbeats 4000000 in
set_option maxRecDepth 8000 in
theorem w_showNested (z : Value) (σ : sg_S) (Q : sg_S → Prop)  (w : V_showNested σ  Q) : wx z 2 326 0 [(0, .inr (.inr (.ref 88)))] [] σ (fun v σ' => v = none ∧ sg_F [136, 137, 138, 77088, 79088] σ σ' ∧ Q σ') := by
  unfold V_showNested at w
  refine wk_b tt_326 3 (pc' := 5) (ls' := [(0, .inr (.inr (.ref 88)))]) (st' := []) (σ' := (sg_w σ 88 78 (0))) rfl ?_
  generalize hs2 : (sg_w σ 88 78 (0)) = σ1
  have w := w σ1 hs2.symm
  have hF3 : sg_F [79088] σ σ1 := by rw [← hs2]; exact sg_F_w (sg_F_r _ _) rfl _
  refine wk_b tt_326 2 (pc' := 9) (ls' := [(0, .inr (.inr (.ref 88)))]) (st' := [.inl ((sg_g σ1 88 53))]) (σ' := σ1) rfl ?_
  rw [show (sg_g σ1 88 53) = (sg_g σ 88 53) from by rw [sg_F_g hF3 rfl]]
  refine wk_if tt_326 (tgt := 37) rfl rfl (sg_Rg _ _ _) (fun (h4 : ¬ (sg_g σ 88 53) = 0) => ?_) (fun (h4 : (sg_g σ 88 53) = 0) => ?_)
  ·
    have w := w.1 h4
    refine wk_b tt_326 2 (pc' := 41) (ls' := [(0, .inr (.inr (.ref 88)))]) (st' := [.inl ((sg_g σ1 88 53))]) (σ' := σ1) rfl ?_
    rw [show (sg_g σ1 88 53) = (sg_g σ 88 53) from by rw [sg_F_g hF3 rfl]]
    refine wk_if tt_326 (tgt := 200) rfl rfl (sg_Rg _ _ _) (fun (h5 : ¬ (sg_g σ 88 53) = 0) => ?_) (fun (h5 : (sg_g σ 88 53) = 0) => ?_)
    ·
      have w := w.1 h5
      refine wk_b tt_326 4 (pc' := 208) (ls' := [(0, .inr (.inr (.ref 88)))]) (st' := []) (σ' := (sg_w σ1 88 76 ((sg_g σ1 88 78)))) rfl ?_
      rw [show (sg_g σ1 88 78) = 0 from by rw [(show sg_g σ1 88 78 = 0 from by rw [← hs2]; exact sg_gw_e _ _ _ _ (by decide))]]
      generalize hs7 : (sg_w σ1 88 76 (0)) = σ6
      have w := w σ6 hs7.symm
      have hF8 : sg_F [77088] σ1 σ6 := by rw [← hs7]; exact sg_F_w (sg_F_r _ _) rfl _
      exact wk_rV tt_326 rfl rfl ⟨rfl, (sg_F_t (sg_F_t (sg_F_r [136, 137, 138, 77088, 79088] σ) (sg_F_m (L := [136, 137, 138, 77088, 79088]) hF3 rfl)) (sg_F_m (L := [136, 137, 138, 77088, 79088]) hF8 rfl)), w⟩
    ·
      have w := w.2 h5
      refine wk_b tt_326 8 (pc' := 56) (ls' := [(1, .inl (1)), (0, .inr (.inr (.ref 88)))]) (st' := [.inl (0), .inr (.inr (.ref 133)), .inl (0), .inr (.inr (.ref 137))]) (σ' := σ1) rfl ?_
      refine wk_ia tt_326 rfl rfl (by decide) (by decide) (by decide) ?_
      rw [show (sg_g σ1 133 (0)) = (sg_g σ 133 (0)) from by rw [sg_F_ga hF3 rfl]]
      refine wk_is tt_326 rfl rfl (by decide) (by decide) (by decide) ?_
      generalize hs10 : (sg_w σ1 137 (0) ((sg_g σ 133 (0)))) = σ9
      have w := w σ9 hs10.symm
      have hF11 : sg_F [137] σ1 σ9 := by rw [← hs10]; exact sg_F_w (sg_F_r _ _) rfl _
      refine wk_b tt_326 4 (pc' := 64) (ls' := [(1, .inl (1)), (0, .inr (.inr (.ref 88)))]) (st' := [.inl (0), .inl (0), .inr (.inr (.ref 138))]) (σ' := σ9) rfl ?_
      refine wk_is tt_326 rfl rfl (by decide) (by decide) (by decide) ?_
      generalize hs13 : (sg_w σ9 138 (0) (0)) = σ12
      have w := w σ12 hs13.symm
      have hF14 : sg_F [138] σ9 σ12 := by rw [← hs13]; exact sg_F_w (sg_F_r _ _) rfl _
      refine wk_b tt_326 2 (pc' := 68) (ls' := [(1, .inl (1)), (0, .inr (.inr (.ref 88)))]) (st' := [.inl (91), .inr (.inr (.ref 88))]) (σ' := σ12) rfl ?_
      refine wk_call tt_326 rfl rfl rfl rfl rfl tt_324 rfl (by decide) (w_show z σ12 (91) _ (by decide) w) (fun u20 σ16 hq18 => ?_)
      obtain ⟨rfl, hF17, w⟩ := hq18
      have w := w hF17
      obtain ⟨I24, X26, ⟨μ25, w31⟩, w32, w33⟩ := w
      have ex35 : ∀ (σ22 : sg_S), sg_F [136, 137, 138, 79088] σ16 σ22 → X26 σ22 → wx z 2 326 200 [(0, .inr (.inr (.ref 88)))] [] σ22 (fun v σ' => v = none ∧ sg_F [136, 137, 138, 77088, 79088] σ σ' ∧ Q σ') := by
        intro σ22 hF23 w
        have w := w33 σ22 hF23 w
        refine wk_b tt_326 4 (pc' := 208) (ls' := [(0, .inr (.inr (.ref 88)))]) (st' := []) (σ' := (sg_w σ22 88 76 ((sg_g σ22 88 78)))) rfl ?_
        generalize hs37 : (sg_w σ22 88 76 ((sg_g σ22 88 78))) = σ36
        have w := w σ36 hs37.symm
        have hF38 : sg_F [77088] σ22 σ36 := by rw [← hs37]; exact sg_F_w (sg_F_r _ _) rfl _
        exact wk_rV tt_326 rfl rfl ⟨rfl, (sg_F_t (sg_F_t (sg_F_t (sg_F_t (sg_F_t (sg_F_t (sg_F_r [136, 137, 138, 77088, 79088] σ) (sg_F_m (L := [136, 137, 138, 77088, 79088]) hF3 rfl)) (sg_F_m (L := [136, 137, 138, 77088, 79088]) hF11 rfl)) (sg_F_m (L := [136, 137, 138, 77088, 79088]) hF14 rfl)) (sg_F_m (L := [136, 137, 138, 77088, 79088]) hF17 rfl)) (sg_F_m (L := [136, 137, 138, 77088, 79088]) hF23 rfl)) (sg_F_m (L := [136, 137, 138, 77088, 79088]) hF38 rfl)), w⟩
      have lp30 : ∀ (n34 : Nat) (v21 : Int) (σ22 : sg_S), sg_R v21 → sg_F [136, 137, 138, 79088] σ16 σ22 → I24 n34 v21 σ22 → wx z 2 326 71 [(0, .inr (.inr (.ref 88))), (1, .inl (v21))] [] σ22 (fun v σ' => v = none ∧ sg_F [136, 137, 138, 77088, 79088] σ σ' ∧ Q σ') := by
        intro n34
        induction n34 using Nat.strongRecOn with
        | _ n34 ih28 =>
          intro v21 σ22 r27 hF23 w
          have w := w32 n34 v21 σ22 r27 hF23 w
          refine wk_b tt_326 1 (pc' := 72) (ls' := [(0, .inr (.inr (.ref 88))), (1, .inl (v21))]) (st' := [.inl (v21)]) (σ' := σ22) rfl ?_
          refine wk_if tt_326 (tgt := 200) rfl rfl r27 (fun (h39 : v21 ≤ 0) => ?_) (fun (h39 : 0 < v21) => ?_)
          ·
            have w := w.1 h39
            exact wk_ls [(0, .inr (.inr (.ref 88)))] rfl ⟨rfl, trivial⟩ (ex35  σ22  (sg_F_t (sg_F_r [136, 137, 138, 79088] σ16) (sg_F_m (L := [136, 137, 138, 79088]) hF23 rfl)) w)
          ·
            have w := w.2 h39
            obtain ⟨c40, w⟩ := w
            refine wk_b tt_326 7 (pc' := 84) (ls' := [(2, .inl ((v21 - 1))), (0, .inr (.inr (.ref 88))), (1, .inl (v21))]) (st' := [.inl ((v21 - 1)), .inr (.inr (.ref 138))]) (σ' := σ22) rfl ?_
            obtain ⟨c41, w⟩ := w
            refine wk_ia tt_326 rfl rfl c41.1 c41.2 c40 ?_
            refine wk_b tt_326 5 (pc' := 94) (ls' := [(2, .inl ((v21 - 1))), (0, .inr (.inr (.ref 88))), (1, .inl (v21))]) (st' := [.inl ((v21 - 1)), .inr (.inr (.ref 137)), .inr (.inr (.ref 123)), .inl ((sg_g σ22 138 ((v21 - 1))))]) (σ' := σ22) rfl ?_
            refine wk_ia tt_326 rfl rfl c41.1 c41.2 c40 ?_
            obtain ⟨c42, w⟩ := w
            refine wk_ia tt_326 rfl rfl c42.1 c42.2 (sg_Rg _ _ _) ?_
            rw [show (sg_g σ22 123 ((sg_g σ22 137 ((v21 - 1))))) = (sg_g σ 123 ((sg_g σ22 137 ((v21 - 1))))) from by rw [sg_F_ga hF23 rfl, sg_F_ga hF17 rfl, sg_F_ga hF14 rfl, sg_F_ga hF11 rfl, sg_F_ga hF3 rfl]]
            obtain ⟨P45, w, w50⟩ := w
            have jn44 : ∀ (v48 : Int) (σ46 : sg_S), sg_R v48 → sg_F [136, 137, 138, 79088] σ22 σ46 → P45 v48 σ46 → wx z 2 326 197 [(0, .inr (.inr (.ref 88))), (1, .inl (v48))] [] σ46 (fun v σ' => v = none ∧ sg_F [136, 137, 138, 77088, 79088] σ σ' ∧ Q σ') := by
              intro v48 σ46 r49 hF47 w
              have w := w50 v48 σ46 r49 hF47 w
              refine wk_b tt_326 1 (pc' := 71) (ls' := [(0, .inr (.inr (.ref 88))), (1, .inl (v48))]) (st' := []) (σ' := σ46) rfl ?_
              obtain ⟨m51, hm51, w⟩ := w
              exact wk_ls [(0, .inr (.inr (.ref 88))), (1, .inl (v48))] rfl ⟨rfl, rfl, trivial⟩ (ih28 m51 hm51 (v48) σ46 r49 (sg_F_t (sg_F_t (sg_F_r [136, 137, 138, 79088] σ16) (sg_F_m (L := [136, 137, 138, 79088]) hF23 rfl)) (sg_F_m (L := [136, 137, 138, 79088]) hF47 rfl)) w)
            refine wk_if2 tt_326 (tgt := 111) rfl rfl (sg_Rg _ _ _) (sg_Rg _ _ _) (fun (h43 : ¬ (sg_g σ22 138 ((v21 - 1))) = (sg_g σ 123 ((sg_g σ22 137 ((v21 - 1)))))) => ?_) (fun (h43 : (sg_g σ22 138 ((v21 - 1))) = (sg_g σ 123 ((sg_g σ22 137 ((v21 - 1)))))) => ?_)
            ·
              have w := w.1 h43
              refine wk_b tt_326 3 (pc' := 116) (ls' := [(2, .inl ((v21 - 1))), (0, .inr (.inr (.ref 88))), (1, .inl (v21))]) (st' := [.inl ((v21 - 1)), .inr (.inr (.ref 138))]) (σ' := σ22) rfl ?_
              refine wk_ia tt_326 rfl rfl c41.1 c41.2 c40 ?_
              obtain ⟨P54, w, w57⟩ := w
              have jn53 : ∀ (σ55 : sg_S), sg_F [136, 79088] σ22 σ55 → P54 σ55 → wx z 2 326 126 [(0, .inr (.inr (.ref 88))), (1, .inl (v21)), (2, .inl ((v21 - 1)))] [] σ55 (fun v σ' => v = none ∧ sg_F [136, 137, 138, 77088, 79088] σ σ' ∧ Q σ') := by
                intro σ55 hF56 w
                have w := w57 σ55 hF56 w
                refine wk_b tt_326 4 (pc' := 132) (ls' := [(0, .inr (.inr (.ref 88))), (1, .inl (v21)), (2, .inl ((v21 - 1)))]) (st' := [.inl ((v21 - 1)), .inr (.inr (.ref 137)), .inr (.inr (.ref 88))]) (σ' := σ55) rfl ?_
                refine wk_ia tt_326 rfl rfl c41.1 c41.2 c40 ?_
                rw [show (sg_g σ55 137 ((v21 - 1))) = (sg_g σ22 137 ((v21 - 1))) from by rw [sg_F_ga hF56 rfl]]
                refine wk_b tt_326 3 (pc' := 138) (ls' := [(0, .inr (.inr (.ref 88))), (1, .inl (v21)), (2, .inl ((v21 - 1)))]) (st' := [.inl ((v21 - 1)), .inr (.inr (.ref 138)), .inl ((sg_g σ22 137 ((v21 - 1)))), .inr (.inr (.ref 88))]) (σ' := σ55) rfl ?_
                refine wk_ia tt_326 rfl rfl c41.1 c41.2 c40 ?_
                rw [show (sg_g σ55 138 ((v21 - 1))) = (sg_g σ22 138 ((v21 - 1))) from by rw [sg_F_ga hF56 rfl]]
                obtain ⟨c58, w⟩ := w
                have c58 : p_itemAt σ55 ((sg_g σ22 137 ((v21 - 1)))) ((sg_g σ22 138 ((v21 - 1)))) := by
                  rw [pF_itemAt hF56 rfl rfl, pF_itemAt hF23 rfl rfl, pF_itemAt hF17 rfl rfl, pF_itemAt hF14 rfl rfl, pF_itemAt hF11 rfl rfl, pF_itemAt hF3 rfl rfl]; exact c58
                refine wk_callp tt_326 rfl rfl rfl rfl rfl tt_270 rfl (by decide) (w_itemAt z σ55 ((sg_g σ22 137 ((v21 - 1)))) ((sg_g σ22 138 ((v21 - 1)))) (sg_Rg _ _ _) (sg_Rg _ _ _) c58) ?_
                rw [vF_itemAt hF56 rfl rfl, vF_itemAt hF23 rfl rfl, vF_itemAt hF17 rfl rfl, vF_itemAt hF14 rfl rfl, vF_itemAt hF11 rfl rfl, vF_itemAt hF3 rfl rfl]
                have r59 := vr_itemAt σ  ((sg_g σ22 137 ((v21 - 1)))) ((sg_g σ22 138 ((v21 - 1)))) (sg_Rg _ _ _) (sg_Rg _ _ _) (by have q := c58; rw [pF_itemAt hF56 rfl rfl, pF_itemAt hF23 rfl rfl, pF_itemAt hF17 rfl rfl, pF_itemAt hF14 rfl rfl, pF_itemAt hF11 rfl rfl, pF_itemAt hF3 rfl rfl] at q; exact q)
                refine wk_b tt_326 5 (pc' := 149) (ls' := [(3, .inl ((v_itemAt σ ((sg_g σ22 137 ((v21 - 1)))) ((sg_g σ22 138 ((v21 - 1))))))), (0, .inr (.inr (.ref 88))), (1, .inl (v21)), (2, .inl ((v21 - 1)))]) (st' := [.inl ((v21 - 1)), .inr (.inr (.ref 138)), .inl ((v21 - 1)), .inr (.inr (.ref 138))]) (σ' := σ55) rfl ?_
                refine wk_ia tt_326 rfl rfl c41.1 c41.2 c40 ?_
                rw [show (sg_g σ55 138 ((v21 - 1))) = (sg_g σ22 138 ((v21 - 1))) from by rw [sg_F_ga hF56 rfl]]
                obtain ⟨c60, w⟩ := w
                refine wk_b tt_326 2 (pc' := 152) (ls' := [(3, .inl ((v_itemAt σ ((sg_g σ22 137 ((v21 - 1)))) ((sg_g σ22 138 ((v21 - 1))))))), (0, .inr (.inr (.ref 88))), (1, .inl (v21)), (2, .inl ((v21 - 1)))]) (st' := [.inl (((sg_g σ22 138 ((v21 - 1))) + 1)), .inl ((v21 - 1)), .inr (.inr (.ref 138))]) (σ' := σ55) rfl ?_
                refine wk_is tt_326 rfl rfl c41.1 c41.2 c40 ?_
                generalize hs62 : (sg_w σ55 138 ((v21 - 1)) (((sg_g σ22 138 ((v21 - 1))) + 1))) = σ61
                have w := w σ61 hs62.symm
                have hF63 : sg_F [138] σ55 σ61 := by rw [← hs62]; exact sg_F_w (sg_F_r _ _) rfl _
                refine wk_b tt_326 5 (pc' := 162) (ls' := [(3, .inl ((v_itemAt σ ((sg_g σ22 137 ((v21 - 1)))) ((sg_g σ22 138 ((v21 - 1))))))), (0, .inr (.inr (.ref 88))), (1, .inl (v21)), (2, .inl ((v21 - 1)))]) (st' := [.inl ((sg_g σ61 88 27)), .inr (.inr (.ref 101)), .inl (v21)]) (σ' := σ61) rfl ?_
                rw [show (sg_g σ61 88 27) = (sg_g σ 88 27) from by rw [sg_F_ga hF63 rfl, sg_F_g hF56 rfl, sg_F_g hF23 rfl, sg_F_g hF17 rfl, sg_F_ga hF14 rfl, sg_F_ga hF11 rfl, sg_F_g hF3 rfl]]
                obtain ⟨c64, w⟩ := w
                refine wk_ia tt_326 rfl rfl c64.1 c64.2 (sg_Rg _ _ _) ?_
                rw [show (sg_g σ61 101 ((sg_g σ 88 27))) = (sg_g σ 101 ((sg_g σ 88 27))) from by rw [sg_F_ga hF63 rfl, sg_F_ga hF56 rfl, sg_F_ga hF23 rfl, sg_F_ga hF17 rfl, sg_F_ga hF14 rfl, sg_F_ga hF11 rfl, sg_F_ga hF3 rfl]]
                refine wk_if2 tt_326 (tgt := 174) rfl rfl r27 (sg_Rg _ _ _) (fun (h65 : ¬ v21 = (sg_g σ 101 ((sg_g σ 88 27)))) => ?_) (fun (h65 : v21 = (sg_g σ 101 ((sg_g σ 88 27)))) => ?_)
                ·
                  have w := w.1 h65
                  refine wk_b tt_326 4 (pc' := 180) (ls' := [(3, .inl ((v_itemAt σ ((sg_g σ22 137 ((v21 - 1)))) ((sg_g σ22 138 ((v21 - 1))))))), (0, .inr (.inr (.ref 88))), (1, .inl (v21)), (2, .inl ((v21 - 1)))]) (st' := [.inl ((v_itemAt σ ((sg_g σ22 137 ((v21 - 1)))) ((sg_g σ22 138 ((v21 - 1)))))), .inl (v21), .inr (.inr (.ref 137))]) (σ' := σ61) rfl ?_
                  obtain ⟨c66, w⟩ := w
                  refine wk_is tt_326 rfl rfl c66.1 c66.2 r27 ?_
                  generalize hs68 : (sg_w σ61 137 (v21) ((v_itemAt σ ((sg_g σ22 137 ((v21 - 1)))) ((sg_g σ22 138 ((v21 - 1))))))) = σ67
                  have w := w σ67 hs68.symm
                  have hF69 : sg_F [137] σ61 σ67 := by rw [← hs68]; exact sg_F_w (sg_F_r _ _) rfl _
                  refine wk_b tt_326 4 (pc' := 187) (ls' := [(3, .inl ((v_itemAt σ ((sg_g σ22 137 ((v21 - 1)))) ((sg_g σ22 138 ((v21 - 1))))))), (0, .inr (.inr (.ref 88))), (1, .inl (v21)), (2, .inl ((v21 - 1)))]) (st' := [.inl (0), .inl (v21), .inr (.inr (.ref 138))]) (σ' := σ67) rfl ?_
                  refine wk_is tt_326 rfl rfl c66.1 c66.2 r27 ?_
                  generalize hs71 : (sg_w σ67 138 (v21) (0)) = σ70
                  have w := w σ70 hs71.symm
                  have hF72 : sg_F [138] σ67 σ70 := by rw [← hs71]; exact sg_F_w (sg_F_r _ _) rfl _
                  refine wk_b tt_326 2 (pc' := 191) (ls' := [(3, .inl ((v_itemAt σ ((sg_g σ22 137 ((v21 - 1)))) ((sg_g σ22 138 ((v21 - 1))))))), (0, .inr (.inr (.ref 88))), (1, .inl (v21)), (2, .inl ((v21 - 1)))]) (st' := [.inl (91), .inr (.inr (.ref 88))]) (σ' := σ70) rfl ?_
                  refine wk_call tt_326 rfl rfl rfl rfl rfl tt_324 rfl (by decide) (w_show z σ70 (91) _ (by decide) w) (fun u78 σ74 hq76 => ?_)
                  obtain ⟨rfl, hF75, w⟩ := hq76
                  have w := w hF75
                  obtain ⟨c79, w⟩ := w
                  refine wk_b tt_326 1 (pc' := 197) (ls' := [(1, .inl ((v21 + 1))), (3, .inl ((v_itemAt σ ((sg_g σ22 137 ((v21 - 1)))) ((sg_g σ22 138 ((v21 - 1))))))), (0, .inr (.inr (.ref 88))), (2, .inl ((v21 - 1)))]) (st' := []) (σ' := σ74) rfl ?_
                  exact wk_ls [(0, .inr (.inr (.ref 88))), (1, .inl ((v21 + 1)))] rfl ⟨rfl, rfl, trivial⟩ (jn44 ((v21 + 1)) σ74 c79 (sg_F_t (sg_F_t (sg_F_t (sg_F_t (sg_F_t (sg_F_r [136, 137, 138, 79088] σ22) (sg_F_m (L := [136, 137, 138, 79088]) hF56 rfl)) (sg_F_m (L := [136, 137, 138, 79088]) hF63 rfl)) (sg_F_m (L := [136, 137, 138, 79088]) hF69 rfl)) (sg_F_m (L := [136, 137, 138, 79088]) hF72 rfl)) (sg_F_m (L := [136, 137, 138, 79088]) hF75 rfl)) w)
                ·
                  have w := w.2 h65
                  refine wk_b tt_326 2 (pc' := 168) (ls' := [(3, .inl ((v_itemAt σ ((sg_g σ22 137 ((v21 - 1)))) ((sg_g σ22 138 ((v21 - 1))))))), (0, .inr (.inr (.ref 88))), (1, .inl (v21)), (2, .inl ((v21 - 1)))]) (st' := [.inl ((v_itemAt σ ((sg_g σ22 137 ((v21 - 1)))) ((sg_g σ22 138 ((v21 - 1)))))), .inr (.inr (.ref 88))]) (σ' := σ61) rfl ?_
                  refine wk_call tt_326 rfl rfl rfl rfl rfl tt_327 rfl (by decide) (w_showNumber z σ61 ((v_itemAt σ ((sg_g σ22 137 ((v21 - 1)))) ((sg_g σ22 138 ((v21 - 1)))))) _ r59 w) (fun u85 σ81 hq83 => ?_)
                  obtain ⟨rfl, hF82, w⟩ := hq83
                  have w := w hF82
                  refine wk_b tt_326 1 (pc' := 197) (ls' := [(3, .inl ((v_itemAt σ ((sg_g σ22 137 ((v21 - 1)))) ((sg_g σ22 138 ((v21 - 1))))))), (0, .inr (.inr (.ref 88))), (1, .inl (v21)), (2, .inl ((v21 - 1)))]) (st' := []) (σ' := σ81) rfl ?_
                  exact wk_ls [(0, .inr (.inr (.ref 88))), (1, .inl (v21))] rfl ⟨rfl, rfl, trivial⟩ (jn44 (v21) σ81 r27 (sg_F_t (sg_F_t (sg_F_t (sg_F_r [136, 137, 138, 79088] σ22) (sg_F_m (L := [136, 137, 138, 79088]) hF56 rfl)) (sg_F_m (L := [136, 137, 138, 79088]) hF63 rfl)) (sg_F_m (L := [136, 137, 138, 79088]) hF82 rfl)) w)
              refine wk_if tt_326 (tgt := 126) rfl rfl (sg_Rg _ _ _) (fun (h52 : (sg_g σ22 138 ((v21 - 1))) ≤ 0) => ?_) (fun (h52 : 0 < (sg_g σ22 138 ((v21 - 1)))) => ?_)
              ·
                have w := w.1 h52
                exact wk_ls [(0, .inr (.inr (.ref 88))), (1, .inl (v21)), (2, .inl ((v21 - 1)))] rfl ⟨rfl, rfl, rfl, trivial⟩ (jn53 σ22 (sg_F_r [136, 79088] σ22) w)
              ·
                have w := w.2 h52
                refine wk_b tt_326 2 (pc' := 123) (ls' := [(2, .inl ((v21 - 1))), (0, .inr (.inr (.ref 88))), (1, .inl (v21))]) (st' := [.inl (44), .inr (.inr (.ref 88))]) (σ' := σ22) rfl ?_
                refine wk_call tt_326 rfl rfl rfl rfl rfl tt_324 rfl (by decide) (w_show z σ22 (44) _ (by decide) w) (fun u91 σ87 hq89 => ?_)
                obtain ⟨rfl, hF88, w⟩ := hq89
                have w := w hF88
                exact wk_ls [(0, .inr (.inr (.ref 88))), (1, .inl (v21)), (2, .inl ((v21 - 1)))] rfl ⟨rfl, rfl, rfl, trivial⟩ (jn53 σ87 (sg_F_t (sg_F_r [136, 79088] σ22) (sg_F_m (L := [136, 79088]) hF88 rfl)) w)
            ·
              have w := w.2 h43
              refine wk_b tt_326 2 (pc' := 102) (ls' := [(2, .inl ((v21 - 1))), (0, .inr (.inr (.ref 88))), (1, .inl (v21))]) (st' := [.inl (93), .inr (.inr (.ref 88))]) (σ' := σ22) rfl ?_
              refine wk_call tt_326 rfl rfl rfl rfl rfl tt_324 rfl (by decide) (w_show z σ22 (93) _ (by decide) w) (fun u97 σ93 hq95 => ?_)
              obtain ⟨rfl, hF94, w⟩ := hq95
              have w := w hF94
              obtain ⟨c98, w⟩ := w
              refine wk_b tt_326 2 (pc' := 197) (ls' := [(1, .inl ((v21 + (-1)))), (2, .inl ((v21 - 1))), (0, .inr (.inr (.ref 88)))]) (st' := []) (σ' := σ93) rfl ?_
              exact wk_ls [(0, .inr (.inr (.ref 88))), (1, .inl ((v21 + (-1))))] rfl ⟨rfl, rfl, trivial⟩ (jn44 ((v21 + (-1))) σ93 c98 (sg_F_t (sg_F_r [136, 137, 138, 79088] σ22) (sg_F_m (L := [136, 137, 138, 79088]) hF94 rfl)) w)
      exact wk_ls [(0, .inr (.inr (.ref 88))), (1, .inl (1))] rfl ⟨rfl, rfl, trivial⟩ (lp30 μ25 (1) σ16 (by decide) (sg_F_r _ _) w31)
  ·
    have w := w.2 h4
    refine wk_b tt_326 4 (pc' := 20) (ls' := [(0, .inr (.inr (.ref 88)))]) (st' := [.inl ((sg_g σ1 88 27)), .inr (.inr (.ref 101))]) (σ' := σ1) rfl ?_
    rw [show (sg_g σ1 88 27) = (sg_g σ 88 27) from by rw [sg_F_g hF3 rfl]]
    obtain ⟨c99, w⟩ := w
    refine wk_ia tt_326 rfl rfl c99.1 c99.2 (sg_Rg _ _ _) ?_
    rw [show (sg_g σ1 101 ((sg_g σ 88 27))) = (sg_g σ 101 ((sg_g σ 88 27))) from by rw [sg_F_ga hF3 rfl]]
    refine wk_if tt_326 (tgt := 37) rfl rfl (sg_Rg _ _ _) (fun (h100 : ¬ (sg_g σ 101 ((sg_g σ 88 27))) = 0) => ?_) (fun (h100 : (sg_g σ 101 ((sg_g σ 88 27))) = 0) => ?_)
    ·
      have w := w.1 h100
      refine wk_b tt_326 2 (pc' := 41) (ls' := [(0, .inr (.inr (.ref 88)))]) (st' := [.inl ((sg_g σ1 88 53))]) (σ' := σ1) rfl ?_
      rw [show (sg_g σ1 88 53) = (sg_g σ 88 53) from by rw [sg_F_g hF3 rfl]]
      refine wk_if tt_326 (tgt := 200) rfl rfl (sg_Rg _ _ _) (fun (h101 : ¬ (sg_g σ 88 53) = 0) => ?_) (fun (h101 : (sg_g σ 88 53) = 0) => ?_)
      ·
        have w := w.1 h101
        refine wk_b tt_326 4 (pc' := 208) (ls' := [(0, .inr (.inr (.ref 88)))]) (st' := []) (σ' := (sg_w σ1 88 76 ((sg_g σ1 88 78)))) rfl ?_
        rw [show (sg_g σ1 88 78) = 0 from by rw [(show sg_g σ1 88 78 = 0 from by rw [← hs2]; exact sg_gw_e _ _ _ _ (by decide))]]
        generalize hs103 : (sg_w σ1 88 76 (0)) = σ102
        have w := w σ102 hs103.symm
        have hF104 : sg_F [77088] σ1 σ102 := by rw [← hs103]; exact sg_F_w (sg_F_r _ _) rfl _
        exact wk_rV tt_326 rfl rfl ⟨rfl, (sg_F_t (sg_F_t (sg_F_r [136, 137, 138, 77088, 79088] σ) (sg_F_m (L := [136, 137, 138, 77088, 79088]) hF3 rfl)) (sg_F_m (L := [136, 137, 138, 77088, 79088]) hF104 rfl)), w⟩
      ·
        have w := w.2 h101
        refine wk_b tt_326 8 (pc' := 56) (ls' := [(1, .inl (1)), (0, .inr (.inr (.ref 88)))]) (st' := [.inl (0), .inr (.inr (.ref 133)), .inl (0), .inr (.inr (.ref 137))]) (σ' := σ1) rfl ?_
        refine wk_ia tt_326 rfl rfl (by decide) (by decide) (by decide) ?_
        rw [show (sg_g σ1 133 (0)) = (sg_g σ 133 (0)) from by rw [sg_F_ga hF3 rfl]]
        refine wk_is tt_326 rfl rfl (by decide) (by decide) (by decide) ?_
        generalize hs106 : (sg_w σ1 137 (0) ((sg_g σ 133 (0)))) = σ105
        have w := w σ105 hs106.symm
        have hF107 : sg_F [137] σ1 σ105 := by rw [← hs106]; exact sg_F_w (sg_F_r _ _) rfl _
        refine wk_b tt_326 4 (pc' := 64) (ls' := [(1, .inl (1)), (0, .inr (.inr (.ref 88)))]) (st' := [.inl (0), .inl (0), .inr (.inr (.ref 138))]) (σ' := σ105) rfl ?_
        refine wk_is tt_326 rfl rfl (by decide) (by decide) (by decide) ?_
        generalize hs109 : (sg_w σ105 138 (0) (0)) = σ108
        have w := w σ108 hs109.symm
        have hF110 : sg_F [138] σ105 σ108 := by rw [← hs109]; exact sg_F_w (sg_F_r _ _) rfl _
        refine wk_b tt_326 2 (pc' := 68) (ls' := [(1, .inl (1)), (0, .inr (.inr (.ref 88)))]) (st' := [.inl (91), .inr (.inr (.ref 88))]) (σ' := σ108) rfl ?_
        refine wk_call tt_326 rfl rfl rfl rfl rfl tt_324 rfl (by decide) (w_show z σ108 (91) _ (by decide) w) (fun u116 σ112 hq114 => ?_)
        obtain ⟨rfl, hF113, w⟩ := hq114
        have w := w hF113
        obtain ⟨I120, X122, ⟨μ121, w127⟩, w128, w129⟩ := w
        have ex131 : ∀ (σ118 : sg_S), sg_F [136, 137, 138, 79088] σ112 σ118 → X122 σ118 → wx z 2 326 200 [(0, .inr (.inr (.ref 88)))] [] σ118 (fun v σ' => v = none ∧ sg_F [136, 137, 138, 77088, 79088] σ σ' ∧ Q σ') := by
          intro σ118 hF119 w
          have w := w129 σ118 hF119 w
          refine wk_b tt_326 4 (pc' := 208) (ls' := [(0, .inr (.inr (.ref 88)))]) (st' := []) (σ' := (sg_w σ118 88 76 ((sg_g σ118 88 78)))) rfl ?_
          generalize hs133 : (sg_w σ118 88 76 ((sg_g σ118 88 78))) = σ132
          have w := w σ132 hs133.symm
          have hF134 : sg_F [77088] σ118 σ132 := by rw [← hs133]; exact sg_F_w (sg_F_r _ _) rfl _
          exact wk_rV tt_326 rfl rfl ⟨rfl, (sg_F_t (sg_F_t (sg_F_t (sg_F_t (sg_F_t (sg_F_t (sg_F_r [136, 137, 138, 77088, 79088] σ) (sg_F_m (L := [136, 137, 138, 77088, 79088]) hF3 rfl)) (sg_F_m (L := [136, 137, 138, 77088, 79088]) hF107 rfl)) (sg_F_m (L := [136, 137, 138, 77088, 79088]) hF110 rfl)) (sg_F_m (L := [136, 137, 138, 77088, 79088]) hF113 rfl)) (sg_F_m (L := [136, 137, 138, 77088, 79088]) hF119 rfl)) (sg_F_m (L := [136, 137, 138, 77088, 79088]) hF134 rfl)), w⟩
        have lp126 : ∀ (n130 : Nat) (v117 : Int) (σ118 : sg_S), sg_R v117 → sg_F [136, 137, 138, 79088] σ112 σ118 → I120 n130 v117 σ118 → wx z 2 326 71 [(0, .inr (.inr (.ref 88))), (1, .inl (v117))] [] σ118 (fun v σ' => v = none ∧ sg_F [136, 137, 138, 77088, 79088] σ σ' ∧ Q σ') := by
          intro n130
          induction n130 using Nat.strongRecOn with
          | _ n130 ih124 =>
            intro v117 σ118 r123 hF119 w
            have w := w128 n130 v117 σ118 r123 hF119 w
            refine wk_b tt_326 1 (pc' := 72) (ls' := [(0, .inr (.inr (.ref 88))), (1, .inl (v117))]) (st' := [.inl (v117)]) (σ' := σ118) rfl ?_
            refine wk_if tt_326 (tgt := 200) rfl rfl r123 (fun (h135 : v117 ≤ 0) => ?_) (fun (h135 : 0 < v117) => ?_)
            ·
              have w := w.1 h135
              exact wk_ls [(0, .inr (.inr (.ref 88)))] rfl ⟨rfl, trivial⟩ (ex131  σ118  (sg_F_t (sg_F_r [136, 137, 138, 79088] σ112) (sg_F_m (L := [136, 137, 138, 79088]) hF119 rfl)) w)
            ·
              have w := w.2 h135
              obtain ⟨c136, w⟩ := w
              refine wk_b tt_326 7 (pc' := 84) (ls' := [(2, .inl ((v117 - 1))), (0, .inr (.inr (.ref 88))), (1, .inl (v117))]) (st' := [.inl ((v117 - 1)), .inr (.inr (.ref 138))]) (σ' := σ118) rfl ?_
              obtain ⟨c137, w⟩ := w
              refine wk_ia tt_326 rfl rfl c137.1 c137.2 c136 ?_
              refine wk_b tt_326 5 (pc' := 94) (ls' := [(2, .inl ((v117 - 1))), (0, .inr (.inr (.ref 88))), (1, .inl (v117))]) (st' := [.inl ((v117 - 1)), .inr (.inr (.ref 137)), .inr (.inr (.ref 123)), .inl ((sg_g σ118 138 ((v117 - 1))))]) (σ' := σ118) rfl ?_
              refine wk_ia tt_326 rfl rfl c137.1 c137.2 c136 ?_
              obtain ⟨c138, w⟩ := w
              refine wk_ia tt_326 rfl rfl c138.1 c138.2 (sg_Rg _ _ _) ?_
              rw [show (sg_g σ118 123 ((sg_g σ118 137 ((v117 - 1))))) = (sg_g σ 123 ((sg_g σ118 137 ((v117 - 1))))) from by rw [sg_F_ga hF119 rfl, sg_F_ga hF113 rfl, sg_F_ga hF110 rfl, sg_F_ga hF107 rfl, sg_F_ga hF3 rfl]]
              obtain ⟨P141, w, w146⟩ := w
              have jn140 : ∀ (v144 : Int) (σ142 : sg_S), sg_R v144 → sg_F [136, 137, 138, 79088] σ118 σ142 → P141 v144 σ142 → wx z 2 326 197 [(0, .inr (.inr (.ref 88))), (1, .inl (v144))] [] σ142 (fun v σ' => v = none ∧ sg_F [136, 137, 138, 77088, 79088] σ σ' ∧ Q σ') := by
                intro v144 σ142 r145 hF143 w
                have w := w146 v144 σ142 r145 hF143 w
                refine wk_b tt_326 1 (pc' := 71) (ls' := [(0, .inr (.inr (.ref 88))), (1, .inl (v144))]) (st' := []) (σ' := σ142) rfl ?_
                obtain ⟨m147, hm147, w⟩ := w
                exact wk_ls [(0, .inr (.inr (.ref 88))), (1, .inl (v144))] rfl ⟨rfl, rfl, trivial⟩ (ih124 m147 hm147 (v144) σ142 r145 (sg_F_t (sg_F_t (sg_F_r [136, 137, 138, 79088] σ112) (sg_F_m (L := [136, 137, 138, 79088]) hF119 rfl)) (sg_F_m (L := [136, 137, 138, 79088]) hF143 rfl)) w)
              refine wk_if2 tt_326 (tgt := 111) rfl rfl (sg_Rg _ _ _) (sg_Rg _ _ _) (fun (h139 : ¬ (sg_g σ118 138 ((v117 - 1))) = (sg_g σ 123 ((sg_g σ118 137 ((v117 - 1)))))) => ?_) (fun (h139 : (sg_g σ118 138 ((v117 - 1))) = (sg_g σ 123 ((sg_g σ118 137 ((v117 - 1)))))) => ?_)
              ·
                have w := w.1 h139
                refine wk_b tt_326 3 (pc' := 116) (ls' := [(2, .inl ((v117 - 1))), (0, .inr (.inr (.ref 88))), (1, .inl (v117))]) (st' := [.inl ((v117 - 1)), .inr (.inr (.ref 138))]) (σ' := σ118) rfl ?_
                refine wk_ia tt_326 rfl rfl c137.1 c137.2 c136 ?_
                obtain ⟨P150, w, w153⟩ := w
                have jn149 : ∀ (σ151 : sg_S), sg_F [136, 79088] σ118 σ151 → P150 σ151 → wx z 2 326 126 [(0, .inr (.inr (.ref 88))), (1, .inl (v117)), (2, .inl ((v117 - 1)))] [] σ151 (fun v σ' => v = none ∧ sg_F [136, 137, 138, 77088, 79088] σ σ' ∧ Q σ') := by
                  intro σ151 hF152 w
                  have w := w153 σ151 hF152 w
                  refine wk_b tt_326 4 (pc' := 132) (ls' := [(0, .inr (.inr (.ref 88))), (1, .inl (v117)), (2, .inl ((v117 - 1)))]) (st' := [.inl ((v117 - 1)), .inr (.inr (.ref 137)), .inr (.inr (.ref 88))]) (σ' := σ151) rfl ?_
                  refine wk_ia tt_326 rfl rfl c137.1 c137.2 c136 ?_
                  rw [show (sg_g σ151 137 ((v117 - 1))) = (sg_g σ118 137 ((v117 - 1))) from by rw [sg_F_ga hF152 rfl]]
                  refine wk_b tt_326 3 (pc' := 138) (ls' := [(0, .inr (.inr (.ref 88))), (1, .inl (v117)), (2, .inl ((v117 - 1)))]) (st' := [.inl ((v117 - 1)), .inr (.inr (.ref 138)), .inl ((sg_g σ118 137 ((v117 - 1)))), .inr (.inr (.ref 88))]) (σ' := σ151) rfl ?_
                  refine wk_ia tt_326 rfl rfl c137.1 c137.2 c136 ?_
                  rw [show (sg_g σ151 138 ((v117 - 1))) = (sg_g σ118 138 ((v117 - 1))) from by rw [sg_F_ga hF152 rfl]]
                  obtain ⟨c154, w⟩ := w
                  have c154 : p_itemAt σ151 ((sg_g σ118 137 ((v117 - 1)))) ((sg_g σ118 138 ((v117 - 1)))) := by
                    rw [pF_itemAt hF152 rfl rfl, pF_itemAt hF119 rfl rfl, pF_itemAt hF113 rfl rfl, pF_itemAt hF110 rfl rfl, pF_itemAt hF107 rfl rfl, pF_itemAt hF3 rfl rfl]; exact c154
                  refine wk_callp tt_326 rfl rfl rfl rfl rfl tt_270 rfl (by decide) (w_itemAt z σ151 ((sg_g σ118 137 ((v117 - 1)))) ((sg_g σ118 138 ((v117 - 1)))) (sg_Rg _ _ _) (sg_Rg _ _ _) c154) ?_
                  rw [vF_itemAt hF152 rfl rfl, vF_itemAt hF119 rfl rfl, vF_itemAt hF113 rfl rfl, vF_itemAt hF110 rfl rfl, vF_itemAt hF107 rfl rfl, vF_itemAt hF3 rfl rfl]
                  have r155 := vr_itemAt σ  ((sg_g σ118 137 ((v117 - 1)))) ((sg_g σ118 138 ((v117 - 1)))) (sg_Rg _ _ _) (sg_Rg _ _ _) (by have q := c154; rw [pF_itemAt hF152 rfl rfl, pF_itemAt hF119 rfl rfl, pF_itemAt hF113 rfl rfl, pF_itemAt hF110 rfl rfl, pF_itemAt hF107 rfl rfl, pF_itemAt hF3 rfl rfl] at q; exact q)
                  refine wk_b tt_326 5 (pc' := 149) (ls' := [(3, .inl ((v_itemAt σ ((sg_g σ118 137 ((v117 - 1)))) ((sg_g σ118 138 ((v117 - 1))))))), (0, .inr (.inr (.ref 88))), (1, .inl (v117)), (2, .inl ((v117 - 1)))]) (st' := [.inl ((v117 - 1)), .inr (.inr (.ref 138)), .inl ((v117 - 1)), .inr (.inr (.ref 138))]) (σ' := σ151) rfl ?_
                  refine wk_ia tt_326 rfl rfl c137.1 c137.2 c136 ?_
                  rw [show (sg_g σ151 138 ((v117 - 1))) = (sg_g σ118 138 ((v117 - 1))) from by rw [sg_F_ga hF152 rfl]]
                  obtain ⟨c156, w⟩ := w
                  refine wk_b tt_326 2 (pc' := 152) (ls' := [(3, .inl ((v_itemAt σ ((sg_g σ118 137 ((v117 - 1)))) ((sg_g σ118 138 ((v117 - 1))))))), (0, .inr (.inr (.ref 88))), (1, .inl (v117)), (2, .inl ((v117 - 1)))]) (st' := [.inl (((sg_g σ118 138 ((v117 - 1))) + 1)), .inl ((v117 - 1)), .inr (.inr (.ref 138))]) (σ' := σ151) rfl ?_
                  refine wk_is tt_326 rfl rfl c137.1 c137.2 c136 ?_
                  generalize hs158 : (sg_w σ151 138 ((v117 - 1)) (((sg_g σ118 138 ((v117 - 1))) + 1))) = σ157
                  have w := w σ157 hs158.symm
                  have hF159 : sg_F [138] σ151 σ157 := by rw [← hs158]; exact sg_F_w (sg_F_r _ _) rfl _
                  refine wk_b tt_326 5 (pc' := 162) (ls' := [(3, .inl ((v_itemAt σ ((sg_g σ118 137 ((v117 - 1)))) ((sg_g σ118 138 ((v117 - 1))))))), (0, .inr (.inr (.ref 88))), (1, .inl (v117)), (2, .inl ((v117 - 1)))]) (st' := [.inl ((sg_g σ157 88 27)), .inr (.inr (.ref 101)), .inl (v117)]) (σ' := σ157) rfl ?_
                  rw [show (sg_g σ157 88 27) = (sg_g σ 88 27) from by rw [sg_F_ga hF159 rfl, sg_F_g hF152 rfl, sg_F_g hF119 rfl, sg_F_g hF113 rfl, sg_F_ga hF110 rfl, sg_F_ga hF107 rfl, sg_F_g hF3 rfl]]
                  refine wk_ia tt_326 rfl rfl c99.1 c99.2 (sg_Rg _ _ _) ?_
                  rw [show (sg_g σ157 101 ((sg_g σ 88 27))) = (sg_g σ 101 ((sg_g σ 88 27))) from by rw [sg_F_ga hF159 rfl, sg_F_ga hF152 rfl, sg_F_ga hF119 rfl, sg_F_ga hF113 rfl, sg_F_ga hF110 rfl, sg_F_ga hF107 rfl, sg_F_ga hF3 rfl]]
                  refine wk_if2 tt_326 (tgt := 174) rfl rfl r123 (sg_Rg _ _ _) (fun (h160 : ¬ v117 = (sg_g σ 101 ((sg_g σ 88 27)))) => ?_) (fun (h160 : v117 = (sg_g σ 101 ((sg_g σ 88 27)))) => ?_)
                  ·
                    have w := w.1 h160
                    refine wk_b tt_326 4 (pc' := 180) (ls' := [(3, .inl ((v_itemAt σ ((sg_g σ118 137 ((v117 - 1)))) ((sg_g σ118 138 ((v117 - 1))))))), (0, .inr (.inr (.ref 88))), (1, .inl (v117)), (2, .inl ((v117 - 1)))]) (st' := [.inl ((v_itemAt σ ((sg_g σ118 137 ((v117 - 1)))) ((sg_g σ118 138 ((v117 - 1)))))), .inl (v117), .inr (.inr (.ref 137))]) (σ' := σ157) rfl ?_
                    obtain ⟨c161, w⟩ := w
                    refine wk_is tt_326 rfl rfl c161.1 c161.2 r123 ?_
                    generalize hs163 : (sg_w σ157 137 (v117) ((v_itemAt σ ((sg_g σ118 137 ((v117 - 1)))) ((sg_g σ118 138 ((v117 - 1))))))) = σ162
                    have w := w σ162 hs163.symm
                    have hF164 : sg_F [137] σ157 σ162 := by rw [← hs163]; exact sg_F_w (sg_F_r _ _) rfl _
                    refine wk_b tt_326 4 (pc' := 187) (ls' := [(3, .inl ((v_itemAt σ ((sg_g σ118 137 ((v117 - 1)))) ((sg_g σ118 138 ((v117 - 1))))))), (0, .inr (.inr (.ref 88))), (1, .inl (v117)), (2, .inl ((v117 - 1)))]) (st' := [.inl (0), .inl (v117), .inr (.inr (.ref 138))]) (σ' := σ162) rfl ?_
                    refine wk_is tt_326 rfl rfl c161.1 c161.2 r123 ?_
                    generalize hs166 : (sg_w σ162 138 (v117) (0)) = σ165
                    have w := w σ165 hs166.symm
                    have hF167 : sg_F [138] σ162 σ165 := by rw [← hs166]; exact sg_F_w (sg_F_r _ _) rfl _
                    refine wk_b tt_326 2 (pc' := 191) (ls' := [(3, .inl ((v_itemAt σ ((sg_g σ118 137 ((v117 - 1)))) ((sg_g σ118 138 ((v117 - 1))))))), (0, .inr (.inr (.ref 88))), (1, .inl (v117)), (2, .inl ((v117 - 1)))]) (st' := [.inl (91), .inr (.inr (.ref 88))]) (σ' := σ165) rfl ?_
                    refine wk_call tt_326 rfl rfl rfl rfl rfl tt_324 rfl (by decide) (w_show z σ165 (91) _ (by decide) w) (fun u173 σ169 hq171 => ?_)
                    obtain ⟨rfl, hF170, w⟩ := hq171
                    have w := w hF170
                    obtain ⟨c174, w⟩ := w
                    refine wk_b tt_326 1 (pc' := 197) (ls' := [(1, .inl ((v117 + 1))), (3, .inl ((v_itemAt σ ((sg_g σ118 137 ((v117 - 1)))) ((sg_g σ118 138 ((v117 - 1))))))), (0, .inr (.inr (.ref 88))), (2, .inl ((v117 - 1)))]) (st' := []) (σ' := σ169) rfl ?_
                    exact wk_ls [(0, .inr (.inr (.ref 88))), (1, .inl ((v117 + 1)))] rfl ⟨rfl, rfl, trivial⟩ (jn140 ((v117 + 1)) σ169 c174 (sg_F_t (sg_F_t (sg_F_t (sg_F_t (sg_F_t (sg_F_r [136, 137, 138, 79088] σ118) (sg_F_m (L := [136, 137, 138, 79088]) hF152 rfl)) (sg_F_m (L := [136, 137, 138, 79088]) hF159 rfl)) (sg_F_m (L := [136, 137, 138, 79088]) hF164 rfl)) (sg_F_m (L := [136, 137, 138, 79088]) hF167 rfl)) (sg_F_m (L := [136, 137, 138, 79088]) hF170 rfl)) w)
                  ·
                    have w := w.2 h160
                    refine wk_b tt_326 2 (pc' := 168) (ls' := [(3, .inl ((v_itemAt σ ((sg_g σ118 137 ((v117 - 1)))) ((sg_g σ118 138 ((v117 - 1))))))), (0, .inr (.inr (.ref 88))), (1, .inl (v117)), (2, .inl ((v117 - 1)))]) (st' := [.inl ((v_itemAt σ ((sg_g σ118 137 ((v117 - 1)))) ((sg_g σ118 138 ((v117 - 1)))))), .inr (.inr (.ref 88))]) (σ' := σ157) rfl ?_
                    refine wk_call tt_326 rfl rfl rfl rfl rfl tt_327 rfl (by decide) (w_showNumber z σ157 ((v_itemAt σ ((sg_g σ118 137 ((v117 - 1)))) ((sg_g σ118 138 ((v117 - 1)))))) _ r155 w) (fun u180 σ176 hq178 => ?_)
                    obtain ⟨rfl, hF177, w⟩ := hq178
                    have w := w hF177
                    refine wk_b tt_326 1 (pc' := 197) (ls' := [(3, .inl ((v_itemAt σ ((sg_g σ118 137 ((v117 - 1)))) ((sg_g σ118 138 ((v117 - 1))))))), (0, .inr (.inr (.ref 88))), (1, .inl (v117)), (2, .inl ((v117 - 1)))]) (st' := []) (σ' := σ176) rfl ?_
                    exact wk_ls [(0, .inr (.inr (.ref 88))), (1, .inl (v117))] rfl ⟨rfl, rfl, trivial⟩ (jn140 (v117) σ176 r123 (sg_F_t (sg_F_t (sg_F_t (sg_F_r [136, 137, 138, 79088] σ118) (sg_F_m (L := [136, 137, 138, 79088]) hF152 rfl)) (sg_F_m (L := [136, 137, 138, 79088]) hF159 rfl)) (sg_F_m (L := [136, 137, 138, 79088]) hF177 rfl)) w)
                refine wk_if tt_326 (tgt := 126) rfl rfl (sg_Rg _ _ _) (fun (h148 : (sg_g σ118 138 ((v117 - 1))) ≤ 0) => ?_) (fun (h148 : 0 < (sg_g σ118 138 ((v117 - 1)))) => ?_)
                ·
                  have w := w.1 h148
                  exact wk_ls [(0, .inr (.inr (.ref 88))), (1, .inl (v117)), (2, .inl ((v117 - 1)))] rfl ⟨rfl, rfl, rfl, trivial⟩ (jn149 σ118 (sg_F_r [136, 79088] σ118) w)
                ·
                  have w := w.2 h148
                  refine wk_b tt_326 2 (pc' := 123) (ls' := [(2, .inl ((v117 - 1))), (0, .inr (.inr (.ref 88))), (1, .inl (v117))]) (st' := [.inl (44), .inr (.inr (.ref 88))]) (σ' := σ118) rfl ?_
                  refine wk_call tt_326 rfl rfl rfl rfl rfl tt_324 rfl (by decide) (w_show z σ118 (44) _ (by decide) w) (fun u186 σ182 hq184 => ?_)
                  obtain ⟨rfl, hF183, w⟩ := hq184
                  have w := w hF183
                  exact wk_ls [(0, .inr (.inr (.ref 88))), (1, .inl (v117)), (2, .inl ((v117 - 1)))] rfl ⟨rfl, rfl, rfl, trivial⟩ (jn149 σ182 (sg_F_t (sg_F_r [136, 79088] σ118) (sg_F_m (L := [136, 79088]) hF183 rfl)) w)
              ·
                have w := w.2 h139
                refine wk_b tt_326 2 (pc' := 102) (ls' := [(2, .inl ((v117 - 1))), (0, .inr (.inr (.ref 88))), (1, .inl (v117))]) (st' := [.inl (93), .inr (.inr (.ref 88))]) (σ' := σ118) rfl ?_
                refine wk_call tt_326 rfl rfl rfl rfl rfl tt_324 rfl (by decide) (w_show z σ118 (93) _ (by decide) w) (fun u192 σ188 hq190 => ?_)
                obtain ⟨rfl, hF189, w⟩ := hq190
                have w := w hF189
                obtain ⟨c193, w⟩ := w
                refine wk_b tt_326 2 (pc' := 197) (ls' := [(1, .inl ((v117 + (-1)))), (2, .inl ((v117 - 1))), (0, .inr (.inr (.ref 88)))]) (st' := []) (σ' := σ188) rfl ?_
                exact wk_ls [(0, .inr (.inr (.ref 88))), (1, .inl ((v117 + (-1))))] rfl ⟨rfl, rfl, trivial⟩ (jn140 ((v117 + (-1))) σ188 c193 (sg_F_t (sg_F_r [136, 137, 138, 79088] σ118) (sg_F_m (L := [136, 137, 138, 79088]) hF189 rfl)) w)
        exact wk_ls [(0, .inr (.inr (.ref 88))), (1, .inl (1))] rfl ⟨rfl, rfl, trivial⟩ (lp126 μ121 (1) σ112 (by decide) (sg_F_r _ _) w127)
    ·
      have w := w.2 h100
      refine wk_b tt_326 4 (pc' := 30) (ls' := [(0, .inr (.inr (.ref 88)))]) (st' := [.inl (0), .inr (.inr (.ref 133)), .inr (.inr (.ref 88))]) (σ' := σ1) rfl ?_
      refine wk_ia tt_326 rfl rfl (by decide) (by decide) (by decide) ?_
      rw [show (sg_g σ1 133 (0)) = (sg_g σ 133 (0)) from by rw [sg_F_ga hF3 rfl]]
      refine wk_call tt_326 rfl rfl rfl rfl rfl tt_327 rfl (by decide) (w_showNumber z σ1 ((sg_g σ 133 (0))) _ (sg_Rg _ _ _) w) (fun u199 σ195 hq197 => ?_)
      obtain ⟨rfl, hF196, w⟩ := hq197
      have w := w hF196
      refine wk_b tt_326 5 (pc' := 208) (ls' := [(0, .inr (.inr (.ref 88)))]) (st' := []) (σ' := (sg_w σ195 88 76 ((sg_g σ195 88 78)))) rfl ?_
      generalize hs201 : (sg_w σ195 88 76 ((sg_g σ195 88 78))) = σ200
      have w := w σ200 hs201.symm
      have hF202 : sg_F [77088] σ195 σ200 := by rw [← hs201]; exact sg_F_w (sg_F_r _ _) rfl _
      exact wk_rV tt_326 rfl rfl ⟨rfl, (sg_F_t (sg_F_t (sg_F_t (sg_F_r [136, 137, 138, 77088, 79088] σ) (sg_F_m (L := [136, 137, 138, 77088, 79088]) hF3 rfl)) (sg_F_m (L := [136, 137, 138, 77088, 79088]) hF196 rfl)) (sg_F_m (L := [136, 137, 138, 77088, 79088]) hF202 rfl)), w⟩
-- NestedVectorsModel.nested
def V_nested (σ : sg_S) (Q : Int → sg_S → Prop) : Prop := ∀ σ1, σ1 = (sg_w σ 88 0 (0)) → ((¬ (sg_g σ 88 28) = 0 → ((¬ (sg_g σ 88 52) = 20 → sg_R ((sg_g σ 88 52) + 1) ∧ ∀ σ7, σ7 = (sg_w σ1 88 52 (((sg_g σ 88 52) + 1))) → ∀ σ10, σ10 = (sg_w σ7 88 51 (1)) → ∀ σ13, σ13 = (sg_w σ10 88 54 (0)) → ∀ σ16, σ16 = (sg_w σ13 88 56 (0)) → ∀ σ19, σ19 = (sg_w σ16 88 60 (0)) → ∀ σ22, σ22 = (sg_w σ19 88 62 (0)) → ∀ σ25, σ25 = (sg_w σ22 88 70 (0)) → ∀ σ28, σ28 = (sg_w σ25 88 73 (0)) → V_begin σ28 ((sg_g σ 88 27)) (fun σ32 => sg_F [126, 127, 128, 129, 130, 131, 132, 55088, 63088, 74088] σ28 σ32 → (∃ (I39 : Nat → sg_S → Prop) (X41 : sg_S → Prop), (∃ n, I39 n σ32) ∧ (∀ (n48 : Nat) (σ37 : sg_S), sg_F [122, 123, 124, 125, 126, 127, 128, 129, 130, 131, 132, 133, 134, 135, 55088, 56088, 57088, 61088, 63088, 71088, 74088] σ32 σ37 → I39 n48 σ37 → (((sg_g σ37 88 62) ≤ 0 → X41 σ37) ∧ (0 < (sg_g σ37 88 62) → ((¬ (sg_g σ37 88 73) = 0 → X41 σ37) ∧ ((sg_g σ37 88 73) = 0 → V_goNested σ37  (fun σ62 => sg_F [122, 123, 124, 125, 126, 127, 128, 129, 130, 131, 132, 133, 134, 135, 55088, 56088, 57088, 61088, 63088, 71088, 74088] σ37 σ62 → (∃ m, m < n48 ∧ I39 m σ62))))))) ∧ (∀ (σ37 : sg_S), sg_F [122, 123, 124, 125, 126, 127, 128, 129, 130, 131, 132, 133, 134, 135, 55088, 56088, 57088, 61088, 63088, 71088, 74088] σ32 σ37 → X41 σ37 → ∀ σ50, σ50 = (sg_w σ37 88 53 ((sg_g σ37 88 73))) → V_showNested σ50  (fun σ54 => sg_F [136, 137, 138, 77088, 79088] σ50 σ54 → Q ((sg_g σ37 88 73)) σ54))))) ∧ ((sg_g σ 88 52) = 20 → Q ((-3)) σ1))) ∧ ((sg_g σ 88 28) = 0 → Q ((-4)) σ1))
set_option maxHeartbeats 4000000 in
set_option maxRecDepth 8000 in
theorem w_nested (z : Value) (σ : sg_S) (Q : Int → sg_S → Prop)  (w : V_nested σ  Q) : wx z 6 292 0 [(0, .inr (.inr (.ref 88)))] [] σ (fun v σ' => ∃ q, v = some (.inl q) ∧ sg_R q ∧ sg_F [122, 123, 124, 125, 126, 127, 128, 129, 130, 131, 132, 133, 134, 135, 136, 137, 138, 1088, 52088, 53088, 54088, 55088, 56088, 57088, 61088, 63088, 71088, 74088, 77088, 79088] σ σ' ∧ Q q σ') := by
  unfold V_nested at w
  refine wk_b tt_292 3 (pc' := 5) (ls' := [(0, .inr (.inr (.ref 88)))]) (st' := []) (σ' := (sg_w σ 88 0 (0))) rfl ?_
  generalize hs2 : (sg_w σ 88 0 (0)) = σ1
  have w := w σ1 hs2.symm
  have hF3 : sg_F [1088] σ σ1 := by rw [← hs2]; exact sg_F_w (sg_F_r _ _) rfl _
  refine wk_b tt_292 2 (pc' := 9) (ls' := [(0, .inr (.inr (.ref 88)))]) (st' := [.inl ((sg_g σ1 88 28))]) (σ' := σ1) rfl ?_
  rw [show (sg_g σ1 88 28) = (sg_g σ 88 28) from by rw [sg_F_g hF3 rfl]]
  refine wk_if tt_292 (tgt := 15) rfl rfl (sg_Rg _ _ _) (fun (h4 : ¬ (sg_g σ 88 28) = 0) => ?_) (fun (h4 : (sg_g σ 88 28) = 0) => ?_)
  ·
    have w := w.1 h4
    refine wk_b tt_292 3 (pc' := 21) (ls' := [(0, .inr (.inr (.ref 88)))]) (st' := [.inl (20), .inl ((sg_g σ1 88 52))]) (σ' := σ1) rfl ?_
    rw [show (sg_g σ1 88 52) = (sg_g σ 88 52) from by rw [sg_F_g hF3 rfl]]
    refine wk_if2 tt_292 (tgt := 27) rfl rfl (sg_Rg _ _ _) (by decide) (fun (h5 : ¬ (sg_g σ 88 52) = 20) => ?_) (fun (h5 : (sg_g σ 88 52) = 20) => ?_)
    ·
      have w := w.1 h5
      obtain ⟨c6, w⟩ := w
      refine wk_b tt_292 6 (pc' := 37) (ls' := [(0, .inr (.inr (.ref 88)))]) (st' := []) (σ' := (sg_w σ1 88 52 (((sg_g σ1 88 52) + 1)))) rfl ?_
      rw [show (sg_g σ1 88 52) = (sg_g σ 88 52) from by rw [sg_F_g hF3 rfl]]
      generalize hs8 : (sg_w σ1 88 52 (((sg_g σ 88 52) + 1))) = σ7
      have w := w σ7 hs8.symm
      have hF9 : sg_F [53088] σ1 σ7 := by rw [← hs8]; exact sg_F_w (sg_F_r _ _) rfl _
      refine wk_b tt_292 3 (pc' := 42) (ls' := [(0, .inr (.inr (.ref 88)))]) (st' := []) (σ' := (sg_w σ7 88 51 (1))) rfl ?_
      generalize hs11 : (sg_w σ7 88 51 (1)) = σ10
      have w := w σ10 hs11.symm
      have hF12 : sg_F [52088] σ7 σ10 := by rw [← hs11]; exact sg_F_w (sg_F_r _ _) rfl _
      refine wk_b tt_292 3 (pc' := 47) (ls' := [(0, .inr (.inr (.ref 88)))]) (st' := []) (σ' := (sg_w σ10 88 54 (0))) rfl ?_
      generalize hs14 : (sg_w σ10 88 54 (0)) = σ13
      have w := w σ13 hs14.symm
      have hF15 : sg_F [55088] σ10 σ13 := by rw [← hs14]; exact sg_F_w (sg_F_r _ _) rfl _
      refine wk_b tt_292 3 (pc' := 52) (ls' := [(0, .inr (.inr (.ref 88)))]) (st' := []) (σ' := (sg_w σ13 88 56 (0))) rfl ?_
      generalize hs17 : (sg_w σ13 88 56 (0)) = σ16
      have w := w σ16 hs17.symm
      have hF18 : sg_F [57088] σ13 σ16 := by rw [← hs17]; exact sg_F_w (sg_F_r _ _) rfl _
      refine wk_b tt_292 3 (pc' := 57) (ls' := [(0, .inr (.inr (.ref 88)))]) (st' := []) (σ' := (sg_w σ16 88 60 (0))) rfl ?_
      generalize hs20 : (sg_w σ16 88 60 (0)) = σ19
      have w := w σ19 hs20.symm
      have hF21 : sg_F [61088] σ16 σ19 := by rw [← hs20]; exact sg_F_w (sg_F_r _ _) rfl _
      refine wk_b tt_292 3 (pc' := 62) (ls' := [(0, .inr (.inr (.ref 88)))]) (st' := []) (σ' := (sg_w σ19 88 62 (0))) rfl ?_
      generalize hs23 : (sg_w σ19 88 62 (0)) = σ22
      have w := w σ22 hs23.symm
      have hF24 : sg_F [63088] σ19 σ22 := by rw [← hs23]; exact sg_F_w (sg_F_r _ _) rfl _
      refine wk_b tt_292 3 (pc' := 67) (ls' := [(0, .inr (.inr (.ref 88)))]) (st' := []) (σ' := (sg_w σ22 88 70 (0))) rfl ?_
      generalize hs26 : (sg_w σ22 88 70 (0)) = σ25
      have w := w σ25 hs26.symm
      have hF27 : sg_F [71088] σ22 σ25 := by rw [← hs26]; exact sg_F_w (sg_F_r _ _) rfl _
      refine wk_b tt_292 3 (pc' := 72) (ls' := [(0, .inr (.inr (.ref 88)))]) (st' := []) (σ' := (sg_w σ25 88 73 (0))) rfl ?_
      generalize hs29 : (sg_w σ25 88 73 (0)) = σ28
      have w := w σ28 hs29.symm
      have hF30 : sg_F [74088] σ25 σ28 := by rw [← hs29]; exact sg_F_w (sg_F_r _ _) rfl _
      refine wk_b tt_292 3 (pc' := 77) (ls' := [(0, .inr (.inr (.ref 88)))]) (st' := [.inl ((sg_g σ28 88 27)), .inr (.inr (.ref 88))]) (σ' := σ28) rfl ?_
      rw [show (sg_g σ28 88 27) = (sg_g σ 88 27) from by rw [sg_F_g hF30 rfl, sg_F_g hF27 rfl, sg_F_g hF24 rfl, sg_F_g hF21 rfl, sg_F_g hF18 rfl, sg_F_g hF15 rfl, sg_F_g hF12 rfl, sg_F_g hF9 rfl, sg_F_g hF3 rfl]]
      refine wk_call tt_292 rfl rfl rfl rfl rfl tt_214 rfl (by decide) (w_begin z σ28 ((sg_g σ 88 27)) _ (sg_Rg _ _ _) w) (fun u36 σ32 hq34 => ?_)
      obtain ⟨rfl, hF33, w⟩ := hq34
      have w := w hF33
      obtain ⟨I39, X41, ⟨μ40, w45⟩, w46, w47⟩ := w
      have ex49 : ∀ (σ37 : sg_S), sg_F [122, 123, 124, 125, 126, 127, 128, 129, 130, 131, 132, 133, 134, 135, 55088, 56088, 57088, 61088, 63088, 71088, 74088] σ32 σ37 → X41 σ37 → wx z 6 292 101 [(0, .inr (.inr (.ref 88)))] [] σ37 (fun v σ' => ∃ q, v = some (.inl q) ∧ sg_R q ∧ sg_F [122, 123, 124, 125, 126, 127, 128, 129, 130, 131, 132, 133, 134, 135, 136, 137, 138, 1088, 52088, 53088, 54088, 55088, 56088, 57088, 61088, 63088, 71088, 74088, 77088, 79088] σ σ' ∧ Q q σ') := by
        intro σ37 hF38 w
        have w := w47 σ37 hF38 w
        refine wk_b tt_292 4 (pc' := 109) (ls' := [(0, .inr (.inr (.ref 88)))]) (st' := []) (σ' := (sg_w σ37 88 53 ((sg_g σ37 88 73)))) rfl ?_
        generalize hs51 : (sg_w σ37 88 53 ((sg_g σ37 88 73))) = σ50
        have w := w σ50 hs51.symm
        have hF52 : sg_F [54088] σ37 σ50 := by rw [← hs51]; exact sg_F_w (sg_F_r _ _) rfl _
        refine wk_b tt_292 1 (pc' := 110) (ls' := [(0, .inr (.inr (.ref 88)))]) (st' := [.inr (.inr (.ref 88))]) (σ' := σ50) rfl ?_
        refine wk_call tt_292 rfl rfl rfl rfl rfl tt_326 rfl (by decide) (w_showNested z σ50  _  w) (fun u58 σ54 hq56 => ?_)
        obtain ⟨rfl, hF55, w⟩ := hq56
        have w := w hF55
        refine wk_b tt_292 2 (pc' := 117) (ls' := [(0, .inr (.inr (.ref 88)))]) (st' := [.inl ((sg_g σ54 88 53))]) (σ' := σ54) rfl ?_
        rw [show (sg_g σ54 88 53) = (sg_g σ37 88 73) from by rw [sg_F_g hF55 rfl, (show sg_g σ50 88 53 = (sg_g σ37 88 73) from by rw [← hs51]; exact sg_gw_e _ _ _ _ (sg_Rg _ _ _))]]
        exact wk_rI tt_292 rfl rfl ⟨_, rfl, (sg_Rg _ _ _), (sg_F_t (sg_F_t (sg_F_t (sg_F_t (sg_F_t (sg_F_t (sg_F_t (sg_F_t (sg_F_t (sg_F_t (sg_F_t (sg_F_t (sg_F_t (sg_F_r [122, 123, 124, 125, 126, 127, 128, 129, 130, 131, 132, 133, 134, 135, 136, 137, 138, 1088, 52088, 53088, 54088, 55088, 56088, 57088, 61088, 63088, 71088, 74088, 77088, 79088] σ) (sg_F_m (L := [122, 123, 124, 125, 126, 127, 128, 129, 130, 131, 132, 133, 134, 135, 136, 137, 138, 1088, 52088, 53088, 54088, 55088, 56088, 57088, 61088, 63088, 71088, 74088, 77088, 79088]) hF3 rfl)) (sg_F_m (L := [122, 123, 124, 125, 126, 127, 128, 129, 130, 131, 132, 133, 134, 135, 136, 137, 138, 1088, 52088, 53088, 54088, 55088, 56088, 57088, 61088, 63088, 71088, 74088, 77088, 79088]) hF9 rfl)) (sg_F_m (L := [122, 123, 124, 125, 126, 127, 128, 129, 130, 131, 132, 133, 134, 135, 136, 137, 138, 1088, 52088, 53088, 54088, 55088, 56088, 57088, 61088, 63088, 71088, 74088, 77088, 79088]) hF12 rfl)) (sg_F_m (L := [122, 123, 124, 125, 126, 127, 128, 129, 130, 131, 132, 133, 134, 135, 136, 137, 138, 1088, 52088, 53088, 54088, 55088, 56088, 57088, 61088, 63088, 71088, 74088, 77088, 79088]) hF15 rfl)) (sg_F_m (L := [122, 123, 124, 125, 126, 127, 128, 129, 130, 131, 132, 133, 134, 135, 136, 137, 138, 1088, 52088, 53088, 54088, 55088, 56088, 57088, 61088, 63088, 71088, 74088, 77088, 79088]) hF18 rfl)) (sg_F_m (L := [122, 123, 124, 125, 126, 127, 128, 129, 130, 131, 132, 133, 134, 135, 136, 137, 138, 1088, 52088, 53088, 54088, 55088, 56088, 57088, 61088, 63088, 71088, 74088, 77088, 79088]) hF21 rfl)) (sg_F_m (L := [122, 123, 124, 125, 126, 127, 128, 129, 130, 131, 132, 133, 134, 135, 136, 137, 138, 1088, 52088, 53088, 54088, 55088, 56088, 57088, 61088, 63088, 71088, 74088, 77088, 79088]) hF24 rfl)) (sg_F_m (L := [122, 123, 124, 125, 126, 127, 128, 129, 130, 131, 132, 133, 134, 135, 136, 137, 138, 1088, 52088, 53088, 54088, 55088, 56088, 57088, 61088, 63088, 71088, 74088, 77088, 79088]) hF27 rfl)) (sg_F_m (L := [122, 123, 124, 125, 126, 127, 128, 129, 130, 131, 132, 133, 134, 135, 136, 137, 138, 1088, 52088, 53088, 54088, 55088, 56088, 57088, 61088, 63088, 71088, 74088, 77088, 79088]) hF30 rfl)) (sg_F_m (L := [122, 123, 124, 125, 126, 127, 128, 129, 130, 131, 132, 133, 134, 135, 136, 137, 138, 1088, 52088, 53088, 54088, 55088, 56088, 57088, 61088, 63088, 71088, 74088, 77088, 79088]) hF33 rfl)) (sg_F_m (L := [122, 123, 124, 125, 126, 127, 128, 129, 130, 131, 132, 133, 134, 135, 136, 137, 138, 1088, 52088, 53088, 54088, 55088, 56088, 57088, 61088, 63088, 71088, 74088, 77088, 79088]) hF38 rfl)) (sg_F_m (L := [122, 123, 124, 125, 126, 127, 128, 129, 130, 131, 132, 133, 134, 135, 136, 137, 138, 1088, 52088, 53088, 54088, 55088, 56088, 57088, 61088, 63088, 71088, 74088, 77088, 79088]) hF52 rfl)) (sg_F_m (L := [122, 123, 124, 125, 126, 127, 128, 129, 130, 131, 132, 133, 134, 135, 136, 137, 138, 1088, 52088, 53088, 54088, 55088, 56088, 57088, 61088, 63088, 71088, 74088, 77088, 79088]) hF55 rfl)), w⟩
      have lp44 : ∀ (n48 : Nat) (σ37 : sg_S), sg_F [122, 123, 124, 125, 126, 127, 128, 129, 130, 131, 132, 133, 134, 135, 55088, 56088, 57088, 61088, 63088, 71088, 74088] σ32 σ37 → I39 n48 σ37 → wx z 6 292 80 [(0, .inr (.inr (.ref 88)))] [] σ37 (fun v σ' => ∃ q, v = some (.inl q) ∧ sg_R q ∧ sg_F [122, 123, 124, 125, 126, 127, 128, 129, 130, 131, 132, 133, 134, 135, 136, 137, 138, 1088, 52088, 53088, 54088, 55088, 56088, 57088, 61088, 63088, 71088, 74088, 77088, 79088] σ σ' ∧ Q q σ') := by
        intro n48
        induction n48 using Nat.strongRecOn with
        | _ n48 ih42 =>
          intro σ37 hF38 w
          have w := w46 n48 σ37 hF38 w
          refine wk_b tt_292 2 (pc' := 84) (ls' := [(0, .inr (.inr (.ref 88)))]) (st' := [.inl ((sg_g σ37 88 62))]) (σ' := σ37) rfl ?_
          refine wk_if tt_292 (tgt := 101) rfl rfl (sg_Rg _ _ _) (fun (h59 : (sg_g σ37 88 62) ≤ 0) => ?_) (fun (h59 : 0 < (sg_g σ37 88 62)) => ?_)
          ·
            have w := w.1 h59
            exact wk_ls [(0, .inr (.inr (.ref 88)))] rfl ⟨rfl, trivial⟩ (ex49  σ37  (sg_F_t (sg_F_r [122, 123, 124, 125, 126, 127, 128, 129, 130, 131, 132, 133, 134, 135, 55088, 56088, 57088, 61088, 63088, 71088, 74088] σ32) (sg_F_m (L := [122, 123, 124, 125, 126, 127, 128, 129, 130, 131, 132, 133, 134, 135, 55088, 56088, 57088, 61088, 63088, 71088, 74088]) hF38 rfl)) w)
          ·
            have w := w.2 h59
            refine wk_b tt_292 2 (pc' := 91) (ls' := [(0, .inr (.inr (.ref 88)))]) (st' := [.inl ((sg_g σ37 88 73))]) (σ' := σ37) rfl ?_
            refine wk_if tt_292 (tgt := 101) rfl rfl (sg_Rg _ _ _) (fun (h60 : ¬ (sg_g σ37 88 73) = 0) => ?_) (fun (h60 : (sg_g σ37 88 73) = 0) => ?_)
            ·
              have w := w.1 h60
              exact wk_ls [(0, .inr (.inr (.ref 88)))] rfl ⟨rfl, trivial⟩ (ex49  σ37  (sg_F_t (sg_F_r [122, 123, 124, 125, 126, 127, 128, 129, 130, 131, 132, 133, 134, 135, 55088, 56088, 57088, 61088, 63088, 71088, 74088] σ32) (sg_F_m (L := [122, 123, 124, 125, 126, 127, 128, 129, 130, 131, 132, 133, 134, 135, 55088, 56088, 57088, 61088, 63088, 71088, 74088]) hF38 rfl)) w)
            ·
              have w := w.2 h60
              refine wk_b tt_292 1 (pc' := 95) (ls' := [(0, .inr (.inr (.ref 88)))]) (st' := [.inr (.inr (.ref 88))]) (σ' := σ37) rfl ?_
              refine wk_call tt_292 rfl rfl rfl rfl rfl tt_252 rfl (by decide) (w_goNested z σ37  _  w) (fun u66 σ62 hq64 => ?_)
              obtain ⟨rfl, hF63, w⟩ := hq64
              have w := w hF63
              refine wk_b tt_292 1 (pc' := 80) (ls' := [(0, .inr (.inr (.ref 88)))]) (st' := []) (σ' := σ62) rfl ?_
              obtain ⟨m67, hm67, w⟩ := w
              exact wk_ls [(0, .inr (.inr (.ref 88)))] rfl ⟨rfl, trivial⟩ (ih42 m67 hm67  σ62  (sg_F_t (sg_F_t (sg_F_r [122, 123, 124, 125, 126, 127, 128, 129, 130, 131, 132, 133, 134, 135, 55088, 56088, 57088, 61088, 63088, 71088, 74088] σ32) (sg_F_m (L := [122, 123, 124, 125, 126, 127, 128, 129, 130, 131, 132, 133, 134, 135, 55088, 56088, 57088, 61088, 63088, 71088, 74088]) hF38 rfl)) (sg_F_m (L := [122, 123, 124, 125, 126, 127, 128, 129, 130, 131, 132, 133, 134, 135, 55088, 56088, 57088, 61088, 63088, 71088, 74088]) hF63 rfl)) w)
      exact wk_ls [(0, .inr (.inr (.ref 88)))] rfl ⟨rfl, trivial⟩ (lp44 μ40  σ32  (sg_F_r _ _) w45)
    ·
      have w := w.2 h5
      refine wk_b tt_292 1 (pc' := 26) (ls' := [(0, .inr (.inr (.ref 88)))]) (st' := [.inl ((-3))]) (σ' := σ1) rfl ?_
      exact wk_rI tt_292 rfl rfl ⟨_, rfl, (by decide), (sg_F_t (sg_F_r [122, 123, 124, 125, 126, 127, 128, 129, 130, 131, 132, 133, 134, 135, 136, 137, 138, 1088, 52088, 53088, 54088, 55088, 56088, 57088, 61088, 63088, 71088, 74088, 77088, 79088] σ) (sg_F_m (L := [122, 123, 124, 125, 126, 127, 128, 129, 130, 131, 132, 133, 134, 135, 136, 137, 138, 1088, 52088, 53088, 54088, 55088, 56088, 57088, 61088, 63088, 71088, 74088, 77088, 79088]) hF3 rfl)), w⟩
  ·
    have w := w.2 h4
    refine wk_b tt_292 1 (pc' := 14) (ls' := [(0, .inr (.inr (.ref 88)))]) (st' := [.inl ((-4))]) (σ' := σ1) rfl ?_
    exact wk_rI tt_292 rfl rfl ⟨_, rfl, (by decide), (sg_F_t (sg_F_r [122, 123, 124, 125, 126, 127, 128, 129, 130, 131, 132, 133, 134, 135, 136, 137, 138, 1088, 52088, 53088, 54088, 55088, 56088, 57088, 61088, 63088, 71088, 74088, 77088, 79088] σ) (sg_F_m (L := [122, 123, 124, 125, 126, 127, 128, 129, 130, 131, 132, 133, 134, 135, 136, 137, 138, 1088, 52088, 53088, 54088, 55088, 56088, 57088, 61088, 63088, 71088, 74088, 77088, 79088]) hF3 rfl)), w⟩
