/-! What the methods of the flat run ask for (2). -/
-- NestedVectors$Lanes.first
def V_lFirst (σ : sg_S) (a1 : Int) (Q : sg_S → Prop) : Prop := ((¬ (sg_g σ 77 15) = 0 → True) ∧ ((sg_g σ 77 15) = 0 → (((sg_g σ 77 11) < 6000 → True) ∧ (6000 ≤ (sg_g σ 77 11) → True)))) ∧ ∀ v3 : Int, v3 = (if ¬ (sg_g σ 77 15) = 0 then (1 : Int) else (if (sg_g σ 77 11) < 6000 then (0 : Int) else (1 : Int))) → sg_R v3 → ∀ σ6, σ6 = (sg_w σ 77 15 (v3)) → ∀ σ9, σ9 = (sx_put σ6 83 6000 ((sg_g σ 77 11)) (a1)) → sg_R ((sg_g σ 77 11) + 1) ∧ ∀ σ13, σ13 = (sg_w σ9 77 11 (((sg_g σ 77 11) + 1))) → Q σ13
set_option maxHeartbeats 4000000 in
set_option maxRecDepth 8000 in
theorem w_lFirst (z : Value) (σ : sg_S) (a1 : Int) (Q : sg_S → Prop) (ra1 : sg_R a1) (w : V_lFirst σ a1 Q) : wx z 1 105 0 [(0, .inr (.inr (.ref 77))), (1, .inl (a1))] [] σ (fun v σ' => v = none ∧ sg_F [83, 12077, 16077] σ σ' ∧ Q σ') := by
  unfold V_lFirst at w
  refine wk_b tt_105 3 (pc' := 5) (ls' := [(0, .inr (.inr (.ref 77))), (1, .inl (a1))]) (st' := [.inl ((sg_g σ 77 15)), .inr (.inr (.ref 77))]) (σ' := σ) rfl ?_
  obtain ⟨wp, w⟩ := w
  have jn2 : ∀ v3 : Int, v3 = (if ¬ (sg_g σ 77 15) = 0 then (1 : Int) else (if (sg_g σ 77 11) < 6000 then (0 : Int) else (1 : Int))) → sg_R v3 → wx z 1 105 23 [(0, .inr (.inr (.ref 77))), (1, .inl (a1))] [.inl (v3), .inr (.inr (.ref 77))] σ (fun v σ' => v = none ∧ sg_F [83, 12077, 16077] σ σ' ∧ Q σ') := by
    intro v3 e5 r4
    have w := w v3 e5 r4
    refine wk_pz (k := 15) tt_105 rfl rfl rfl rfl (by rw [e5]; repeat (first | exact Or.inl rfl | exact Or.inr rfl | split)) ?_
    generalize hs7 : (sg_w σ 77 15 (v3)) = σ6
    have w := w σ6 hs7.symm
    have hF8 : sg_F [16077] σ σ6 := by rw [← hs7]; exact sg_F_w (sg_F_r _ _) rfl _
    refine wk_b tt_105 5 (pc' := 35) (ls' := [(0, .inr (.inr (.ref 77))), (1, .inl (a1))]) (st' := [.inl (a1), .inl ((sg_g σ6 77 11)), .inr (.inr (.ref 83))]) (σ' := σ6) rfl ?_
    rw [show (sg_g σ6 77 11) = (sg_g σ 77 11) from by rw [sg_F_g hF8 rfl]]
    refine wk_callp tt_105 rfl rfl rfl rfl rfl tt_21 rfl (by decide) (pt_i0 z σ6 83 6000 ((sg_g σ 77 11)) (a1) rfl (by decide) (sg_Rg _ _ _)) ?_
    show wx z 1 105 38 [(0, .inr (.inr (.ref 77))), (1, .inl (a1))] [] (sx_put σ6 83 6000 ((sg_g σ 77 11)) (a1)) (fun v σ' => v = none ∧ sg_F [83, 12077, 16077] σ σ' ∧ Q σ')
    generalize hs10 : (sx_put σ6 83 6000 ((sg_g σ 77 11)) (a1)) = σ9
    have w := w σ9 hs10.symm
    have hF11 : sg_F [83] σ6 σ9 := by rw [← hs10]; exact sg_F_p (sg_F_r _ _) rfl _ _ _
    obtain ⟨c12, w⟩ := w
    refine wk_b tt_105 6 (pc' := 48) (ls' := [(0, .inr (.inr (.ref 77))), (1, .inl (a1))]) (st' := []) (σ' := (sg_w σ9 77 11 (((sg_g σ9 77 11) + 1)))) rfl ?_
    rw [show (sg_g σ9 77 11) = (sg_g σ 77 11) from by rw [sg_F_ga hF11 rfl, sg_F_g hF8 rfl]]
    generalize hs14 : (sg_w σ9 77 11 (((sg_g σ 77 11) + 1))) = σ13
    have w := w σ13 hs14.symm
    have hF15 : sg_F [12077] σ9 σ13 := by rw [← hs14]; exact sg_F_w (sg_F_r _ _) rfl _
    exact wk_rV tt_105 rfl rfl ⟨rfl, (sg_F_t (sg_F_t (sg_F_t (sg_F_r [83, 12077, 16077] σ) (sg_F_m (L := [83, 12077, 16077]) hF8 rfl)) (sg_F_m (L := [83, 12077, 16077]) hF11 rfl)) (sg_F_m (L := [83, 12077, 16077]) hF15 rfl)), w⟩
  have w := wp
  refine wk_if tt_105 (tgt := 18) rfl rfl (sg_Rg _ _ _) (fun (h1 : ¬ (sg_g σ 77 15) = 0) => ?_) (fun (h1 : (sg_g σ 77 15) = 0) => ?_)
  ·
    have w := w.1 h1
    refine wk_b tt_105 2 (pc' := 23) (ls' := [(0, .inr (.inr (.ref 77))), (1, .inl (a1))]) (st' := [.inl (1), .inr (.inr (.ref 77))]) (σ' := σ) rfl ?_
    exact wk_ls [(0, .inr (.inr (.ref 77))), (1, .inl (a1))] rfl ⟨rfl, rfl, trivial⟩ (jn2 (1) (by simp only [if_pos h1]) (by decide))
  ·
    have w := w.2 h1
    refine wk_b tt_105 3 (pc' := 15) (ls' := [(0, .inr (.inr (.ref 77))), (1, .inl (a1))]) (st' := [.inl (6000), .inl ((sg_g σ 77 11)), .inr (.inr (.ref 77))]) (σ' := σ) rfl ?_
    refine wk_if2 tt_105 (tgt := 22) rfl rfl (sg_Rg _ _ _) (by decide) (fun (h16 : (sg_g σ 77 11) < 6000) => ?_) (fun (h16 : 6000 ≤ (sg_g σ 77 11)) => ?_)
    ·
      have w := w.1 h16
      refine wk_b tt_105 1 (pc' := 23) (ls' := [(0, .inr (.inr (.ref 77))), (1, .inl (a1))]) (st' := [.inl (0), .inr (.inr (.ref 77))]) (σ' := σ) rfl ?_
      exact wk_ls [(0, .inr (.inr (.ref 77))), (1, .inl (a1))] rfl ⟨rfl, rfl, trivial⟩ (jn2 (0) (by simp only [if_neg (show ¬ (¬ (sg_g σ 77 15) = 0) by omega), if_pos h16]) (by decide))
    ·
      have w := w.2 h16
      refine wk_b tt_105 2 (pc' := 23) (ls' := [(0, .inr (.inr (.ref 77))), (1, .inl (a1))]) (st' := [.inl (1), .inr (.inr (.ref 77))]) (σ' := σ) rfl ?_
      exact wk_ls [(0, .inr (.inr (.ref 77))), (1, .inl (a1))] rfl ⟨rfl, rfl, trivial⟩ (jn2 (1) (by simp only [if_neg (show ¬ (¬ (sg_g σ 77 15) = 0) by omega), if_neg (show ¬ ((sg_g σ 77 11) < 6000) by omega)]) (by decide))
-- NestedVectors$Lanes.miss
def V_lMiss (σ : sg_S) (a1 : Int) (Q : sg_S → Prop) : Prop := ((¬ (sg_g σ 77 14) = 0 → Q σ) ∧ ((sg_g σ 77 14) = 0 → ∀ σ2, σ2 = (sg_w σ 77 14 (a1)) → Q σ2))
set_option maxHeartbeats 4000000 in
set_option maxRecDepth 8000 in
theorem w_lMiss (z : Value) (σ : sg_S) (a1 : Int) (Q : sg_S → Prop) (ra1 : sg_R a1) (w : V_lMiss σ a1 Q) : wx z 0 108 0 [(0, .inr (.inr (.ref 77))), (1, .inl (a1))] [] σ (fun v σ' => v = none ∧ sg_F [15077] σ σ' ∧ Q σ') := by
  unfold V_lMiss at w
  refine wk_b tt_108 2 (pc' := 4) (ls' := [(0, .inr (.inr (.ref 77))), (1, .inl (a1))]) (st' := [.inl ((sg_g σ 77 14))]) (σ' := σ) rfl ?_
  refine wk_if tt_108 (tgt := 12) rfl rfl (sg_Rg _ _ _) (fun (h1 : ¬ (sg_g σ 77 14) = 0) => ?_) (fun (h1 : (sg_g σ 77 14) = 0) => ?_)
  ·
    have w := w.1 h1
    exact wk_rV tt_108 rfl rfl ⟨rfl, (sg_F_r [15077] σ), w⟩
  ·
    have w := w.2 h1
    refine wk_b tt_108 3 (pc' := 12) (ls' := [(0, .inr (.inr (.ref 77))), (1, .inl (a1))]) (st' := []) (σ' := (sg_w σ 77 14 (a1))) rfl ?_
    generalize hs3 : (sg_w σ 77 14 (a1)) = σ2
    have w := w σ2 hs3.symm
    have hF4 : sg_F [15077] σ σ2 := by rw [← hs3]; exact sg_F_w (sg_F_r _ _) rfl _
    exact wk_rV tt_108 rfl rfl ⟨rfl, (sg_F_t (sg_F_r [15077] σ) (sg_F_m (L := [15077]) hF4 rfl)), w⟩
-- NestedVectors$Lanes.pick
def V_lPick (σ : sg_S) (a1 : Int) (a2 : Int) (a3 : Int) (Q : sg_S → Prop) : Prop := ((a2 < a3 → ((¬ (sg_g σ 77 15) = 0 → True) ∧ ((sg_g σ 77 15) = 0 → (((sg_g σ 77 13) < 6000 → True) ∧ (6000 ≤ (sg_g σ 77 13) → True)))) ∧ ∀ v4 : Int, v4 = (if ¬ (sg_g σ 77 15) = 0 then (1 : Int) else (if (sg_g σ 77 13) < 6000 then (0 : Int) else (1 : Int))) → sg_R v4 → ∀ σ7, σ7 = (sg_w σ 77 15 (v4)) → ∀ σ10, σ10 = (sx_put σ7 85 6000 ((sg_g σ 77 13)) (a1)) → ∀ σ13, σ13 = (sx_put σ10 86 6000 ((sg_g σ 77 13)) (a2)) → ∀ σ16, σ16 = (sx_put σ13 87 6000 ((sg_g σ 77 13)) (a3)) → sg_R ((sg_g σ 77 13) + 1) ∧ ∀ σ20, σ20 = (sg_w σ16 77 13 (((sg_g σ 77 13) + 1))) → Q σ20) ∧ (a3 ≤ a2 → Q σ))
set_option maxHeartbeats 4000000 in
set_option maxRecDepth 8000 in
theorem w_lPick (z : Value) (σ : sg_S) (a1 : Int) (a2 : Int) (a3 : Int) (Q : sg_S → Prop) (ra1 : sg_R a1) (ra2 : sg_R a2) (ra3 : sg_R a3) (w : V_lPick σ a1 a2 a3 Q) : wx z 1 109 0 [(0, .inr (.inr (.ref 77))), (1, .inl (a1)), (2, .inl (a2)), (3, .inl (a3))] [] σ (fun v σ' => v = none ∧ sg_F [85, 86, 87, 14077, 16077] σ σ' ∧ Q σ') := by
  unfold V_lPick at w
  refine wk_b tt_109 2 (pc' := 2) (ls' := [(0, .inr (.inr (.ref 77))), (1, .inl (a1)), (2, .inl (a2)), (3, .inl (a3))]) (st' := [.inl (a3), .inl (a2)]) (σ' := σ) rfl ?_
  refine wk_if2 tt_109 (tgt := 6) rfl rfl ra2 ra3 (fun (h1 : a2 < a3) => ?_) (fun (h1 : a3 ≤ a2) => ?_)
  ·
    have w := w.1 h1
    refine wk_b tt_109 3 (pc' := 11) (ls' := [(0, .inr (.inr (.ref 77))), (1, .inl (a1)), (2, .inl (a2)), (3, .inl (a3))]) (st' := [.inl ((sg_g σ 77 15)), .inr (.inr (.ref 77))]) (σ' := σ) rfl ?_
    obtain ⟨wp, w⟩ := w
    have jn3 : ∀ v4 : Int, v4 = (if ¬ (sg_g σ 77 15) = 0 then (1 : Int) else (if (sg_g σ 77 13) < 6000 then (0 : Int) else (1 : Int))) → sg_R v4 → wx z 1 109 29 [(0, .inr (.inr (.ref 77))), (1, .inl (a1)), (2, .inl (a2)), (3, .inl (a3))] [.inl (v4), .inr (.inr (.ref 77))] σ (fun v σ' => v = none ∧ sg_F [85, 86, 87, 14077, 16077] σ σ' ∧ Q σ') := by
      intro v4 e6 r5
      have w := w v4 e6 r5
      refine wk_pz (k := 15) tt_109 rfl rfl rfl rfl (by rw [e6]; repeat (first | exact Or.inl rfl | exact Or.inr rfl | split)) ?_
      generalize hs8 : (sg_w σ 77 15 (v4)) = σ7
      have w := w σ7 hs8.symm
      have hF9 : sg_F [16077] σ σ7 := by rw [← hs8]; exact sg_F_w (sg_F_r _ _) rfl _
      refine wk_b tt_109 5 (pc' := 41) (ls' := [(0, .inr (.inr (.ref 77))), (1, .inl (a1)), (2, .inl (a2)), (3, .inl (a3))]) (st' := [.inl (a1), .inl ((sg_g σ7 77 13)), .inr (.inr (.ref 85))]) (σ' := σ7) rfl ?_
      rw [show (sg_g σ7 77 13) = (sg_g σ 77 13) from by rw [sg_F_g hF9 rfl]]
      refine wk_callp tt_109 rfl rfl rfl rfl rfl tt_21 rfl (by decide) (pt_i0 z σ7 85 6000 ((sg_g σ 77 13)) (a1) rfl (by decide) (sg_Rg _ _ _)) ?_
      show wx z 1 109 44 [(0, .inr (.inr (.ref 77))), (1, .inl (a1)), (2, .inl (a2)), (3, .inl (a3))] [] (sx_put σ7 85 6000 ((sg_g σ 77 13)) (a1)) (fun v σ' => v = none ∧ sg_F [85, 86, 87, 14077, 16077] σ σ' ∧ Q σ')
      generalize hs11 : (sx_put σ7 85 6000 ((sg_g σ 77 13)) (a1)) = σ10
      have w := w σ10 hs11.symm
      have hF12 : sg_F [85] σ7 σ10 := by rw [← hs11]; exact sg_F_p (sg_F_r _ _) rfl _ _ _
      refine wk_b tt_109 5 (pc' := 53) (ls' := [(0, .inr (.inr (.ref 77))), (1, .inl (a1)), (2, .inl (a2)), (3, .inl (a3))]) (st' := [.inl (a2), .inl ((sg_g σ10 77 13)), .inr (.inr (.ref 86))]) (σ' := σ10) rfl ?_
      rw [show (sg_g σ10 77 13) = (sg_g σ 77 13) from by rw [sg_F_ga hF12 rfl, sg_F_g hF9 rfl]]
      refine wk_callp tt_109 rfl rfl rfl rfl rfl tt_21 rfl (by decide) (pt_i0 z σ10 86 6000 ((sg_g σ 77 13)) (a2) rfl (by decide) (sg_Rg _ _ _)) ?_
      show wx z 1 109 56 [(0, .inr (.inr (.ref 77))), (1, .inl (a1)), (2, .inl (a2)), (3, .inl (a3))] [] (sx_put σ10 86 6000 ((sg_g σ 77 13)) (a2)) (fun v σ' => v = none ∧ sg_F [85, 86, 87, 14077, 16077] σ σ' ∧ Q σ')
      generalize hs14 : (sx_put σ10 86 6000 ((sg_g σ 77 13)) (a2)) = σ13
      have w := w σ13 hs14.symm
      have hF15 : sg_F [86] σ10 σ13 := by rw [← hs14]; exact sg_F_p (sg_F_r _ _) rfl _ _ _
      refine wk_b tt_109 5 (pc' := 65) (ls' := [(0, .inr (.inr (.ref 77))), (1, .inl (a1)), (2, .inl (a2)), (3, .inl (a3))]) (st' := [.inl (a3), .inl ((sg_g σ13 77 13)), .inr (.inr (.ref 87))]) (σ' := σ13) rfl ?_
      rw [show (sg_g σ13 77 13) = (sg_g σ 77 13) from by rw [sg_F_ga hF15 rfl, sg_F_ga hF12 rfl, sg_F_g hF9 rfl]]
      refine wk_callp tt_109 rfl rfl rfl rfl rfl tt_21 rfl (by decide) (pt_i0 z σ13 87 6000 ((sg_g σ 77 13)) (a3) rfl (by decide) (sg_Rg _ _ _)) ?_
      show wx z 1 109 68 [(0, .inr (.inr (.ref 77))), (1, .inl (a1)), (2, .inl (a2)), (3, .inl (a3))] [] (sx_put σ13 87 6000 ((sg_g σ 77 13)) (a3)) (fun v σ' => v = none ∧ sg_F [85, 86, 87, 14077, 16077] σ σ' ∧ Q σ')
      generalize hs17 : (sx_put σ13 87 6000 ((sg_g σ 77 13)) (a3)) = σ16
      have w := w σ16 hs17.symm
      have hF18 : sg_F [87] σ13 σ16 := by rw [← hs17]; exact sg_F_p (sg_F_r _ _) rfl _ _ _
      obtain ⟨c19, w⟩ := w
      refine wk_b tt_109 6 (pc' := 78) (ls' := [(0, .inr (.inr (.ref 77))), (1, .inl (a1)), (2, .inl (a2)), (3, .inl (a3))]) (st' := []) (σ' := (sg_w σ16 77 13 (((sg_g σ16 77 13) + 1)))) rfl ?_
      rw [show (sg_g σ16 77 13) = (sg_g σ 77 13) from by rw [sg_F_ga hF18 rfl, sg_F_ga hF15 rfl, sg_F_ga hF12 rfl, sg_F_g hF9 rfl]]
      generalize hs21 : (sg_w σ16 77 13 (((sg_g σ 77 13) + 1))) = σ20
      have w := w σ20 hs21.symm
      have hF22 : sg_F [14077] σ16 σ20 := by rw [← hs21]; exact sg_F_w (sg_F_r _ _) rfl _
      exact wk_rV tt_109 rfl rfl ⟨rfl, (sg_F_t (sg_F_t (sg_F_t (sg_F_t (sg_F_t (sg_F_r [85, 86, 87, 14077, 16077] σ) (sg_F_m (L := [85, 86, 87, 14077, 16077]) hF9 rfl)) (sg_F_m (L := [85, 86, 87, 14077, 16077]) hF12 rfl)) (sg_F_m (L := [85, 86, 87, 14077, 16077]) hF15 rfl)) (sg_F_m (L := [85, 86, 87, 14077, 16077]) hF18 rfl)) (sg_F_m (L := [85, 86, 87, 14077, 16077]) hF22 rfl)), w⟩
    have w := wp
    refine wk_if tt_109 (tgt := 24) rfl rfl (sg_Rg _ _ _) (fun (h2 : ¬ (sg_g σ 77 15) = 0) => ?_) (fun (h2 : (sg_g σ 77 15) = 0) => ?_)
    ·
      have w := w.1 h2
      refine wk_b tt_109 2 (pc' := 29) (ls' := [(0, .inr (.inr (.ref 77))), (1, .inl (a1)), (2, .inl (a2)), (3, .inl (a3))]) (st' := [.inl (1), .inr (.inr (.ref 77))]) (σ' := σ) rfl ?_
      exact wk_ls [(0, .inr (.inr (.ref 77))), (1, .inl (a1)), (2, .inl (a2)), (3, .inl (a3))] rfl ⟨rfl, rfl, rfl, rfl, trivial⟩ (jn3 (1) (by simp only [if_pos h2]) (by decide))
    ·
      have w := w.2 h2
      refine wk_b tt_109 3 (pc' := 21) (ls' := [(0, .inr (.inr (.ref 77))), (1, .inl (a1)), (2, .inl (a2)), (3, .inl (a3))]) (st' := [.inl (6000), .inl ((sg_g σ 77 13)), .inr (.inr (.ref 77))]) (σ' := σ) rfl ?_
      refine wk_if2 tt_109 (tgt := 28) rfl rfl (sg_Rg _ _ _) (by decide) (fun (h23 : (sg_g σ 77 13) < 6000) => ?_) (fun (h23 : 6000 ≤ (sg_g σ 77 13)) => ?_)
      ·
        have w := w.1 h23
        refine wk_b tt_109 1 (pc' := 29) (ls' := [(0, .inr (.inr (.ref 77))), (1, .inl (a1)), (2, .inl (a2)), (3, .inl (a3))]) (st' := [.inl (0), .inr (.inr (.ref 77))]) (σ' := σ) rfl ?_
        exact wk_ls [(0, .inr (.inr (.ref 77))), (1, .inl (a1)), (2, .inl (a2)), (3, .inl (a3))] rfl ⟨rfl, rfl, rfl, rfl, trivial⟩ (jn3 (0) (by simp only [if_neg (show ¬ (¬ (sg_g σ 77 15) = 0) by omega), if_pos h23]) (by decide))
      ·
        have w := w.2 h23
        refine wk_b tt_109 2 (pc' := 29) (ls' := [(0, .inr (.inr (.ref 77))), (1, .inl (a1)), (2, .inl (a2)), (3, .inl (a3))]) (st' := [.inl (1), .inr (.inr (.ref 77))]) (σ' := σ) rfl ?_
        exact wk_ls [(0, .inr (.inr (.ref 77))), (1, .inl (a1)), (2, .inl (a2)), (3, .inl (a3))] rfl ⟨rfl, rfl, rfl, rfl, trivial⟩ (jn3 (1) (by simp only [if_neg (show ¬ (¬ (sg_g σ 77 15) = 0) by omega), if_neg (show ¬ ((sg_g σ 77 13) < 6000) by omega)]) (by decide))
  ·
    have w := w.2 h1
    exact wk_rV tt_109 rfl rfl ⟨rfl, (sg_F_r [85, 86, 87, 14077, 16077] σ), w⟩
-- NestedVectors$Lanes.copy
def V_lCopy84 (σ : sg_S) (a2 : Int) (Q : sg_S → Prop) : Prop := (∃ (I4 : Nat → Int → sg_S → Prop) (X6 : sg_S → Prop), (∃ n, I4 n (0) σ) ∧ (∀ (n14 : Nat) (v1 : Int) (σ2 : sg_S), sg_R v1 → sg_F [78, 16077, 17077] σ σ2 → I4 n14 v1 σ2 → ((a2 ≤ v1 → X6 σ2) ∧ (v1 < a2 → ((¬ (sg_g σ2 77 15) = 0 → X6 σ2) ∧ ((sg_g σ2 77 15) = 0 → V_lStore σ2 ((sx_at σ 84 6000 (v1))) (fun σ19 => sg_F [78, 16077, 17077] σ2 σ19 → sg_R (v1 + 1) ∧ (∃ m, m < n14 ∧ I4 m ((v1 + 1)) σ19))))))) ∧ (∀ (σ2 : sg_S), sg_F [78, 16077, 17077] σ σ2 → X6 σ2 → Q σ2))
set_option maxHeartbeats 4000000 in
set_option maxRecDepth 8000 in
theorem w_lCopy84 (z : Value) (σ : sg_S) (a2 : Int) (Q : sg_S → Prop) (ra2 : sg_R a2) (w : V_lCopy84 σ a2 Q) : wx z 1 102 0 [(0, .inr (.inr (.ref 77))), (1, .inr (.inr (.ref 84))), (2, .inl (a2))] [] σ (fun v σ' => v = none ∧ sg_F [78, 16077, 17077] σ σ' ∧ Q σ') := by
  unfold V_lCopy84 at w
  refine wk_b tt_102 2 (pc' := 2) (ls' := [(3, .inl (0)), (0, .inr (.inr (.ref 77))), (1, .inr (.inr (.ref 84))), (2, .inl (a2))]) (st' := []) (σ' := σ) rfl ?_
  obtain ⟨I4, X6, ⟨μ5, w11⟩, w12, w13⟩ := w
  have ex15 : ∀ (σ2 : sg_S), sg_F [78, 16077, 17077] σ σ2 → X6 σ2 → wx z 1 102 29 [] [] σ2 (fun v σ' => v = none ∧ sg_F [78, 16077, 17077] σ σ' ∧ Q σ') := by
    intro σ2 hF3 w
    have w := w13 σ2 hF3 w
    exact wk_rV tt_102 rfl rfl ⟨rfl, (sg_F_t (sg_F_r [78, 16077, 17077] σ) (sg_F_m (L := [78, 16077, 17077]) hF3 rfl)), w⟩
  have lp10 : ∀ (n14 : Nat) (v1 : Int) (σ2 : sg_S), sg_R v1 → sg_F [78, 16077, 17077] σ σ2 → I4 n14 v1 σ2 → wx z 1 102 2 [(0, .inr (.inr (.ref 77))), (1, .inr (.inr (.ref 84))), (2, .inl (a2)), (3, .inl (v1))] [] σ2 (fun v σ' => v = none ∧ sg_F [78, 16077, 17077] σ σ' ∧ Q σ') := by
    intro n14
    induction n14 using Nat.strongRecOn with
    | _ n14 ih8 =>
      intro v1 σ2 r7 hF3 w
      have w := w12 n14 v1 σ2 r7 hF3 w
      refine wk_b tt_102 2 (pc' := 4) (ls' := [(0, .inr (.inr (.ref 77))), (1, .inr (.inr (.ref 84))), (2, .inl (a2)), (3, .inl (v1))]) (st' := [.inl (a2), .inl (v1)]) (σ' := σ2) rfl ?_
      refine wk_if2 tt_102 (tgt := 29) rfl rfl r7 ra2 (fun (h16 : a2 ≤ v1) => ?_) (fun (h16 : v1 < a2) => ?_)
      ·
        have w := w.1 h16
        exact wk_ls [] rfl trivial (ex15  σ2  (sg_F_t (sg_F_r [78, 16077, 17077] σ) (sg_F_m (L := [78, 16077, 17077]) hF3 rfl)) w)
      ·
        have w := w.2 h16
        refine wk_b tt_102 2 (pc' := 11) (ls' := [(0, .inr (.inr (.ref 77))), (1, .inr (.inr (.ref 84))), (2, .inl (a2)), (3, .inl (v1))]) (st' := [.inl ((sg_g σ2 77 15))]) (σ' := σ2) rfl ?_
        refine wk_if tt_102 (tgt := 29) rfl rfl (sg_Rg _ _ _) (fun (h17 : ¬ (sg_g σ2 77 15) = 0) => ?_) (fun (h17 : (sg_g σ2 77 15) = 0) => ?_)
        ·
          have w := w.1 h17
          exact wk_ls [] rfl trivial (ex15  σ2  (sg_F_t (sg_F_r [78, 16077, 17077] σ) (sg_F_m (L := [78, 16077, 17077]) hF3 rfl)) w)
        ·
          have w := w.2 h17
          refine wk_b tt_102 3 (pc' := 17) (ls' := [(0, .inr (.inr (.ref 77))), (1, .inr (.inr (.ref 84))), (2, .inl (a2)), (3, .inl (v1))]) (st' := [.inl (v1), .inr (.inr (.ref 84)), .inr (.inr (.ref 77))]) (σ' := σ2) rfl ?_
          refine wk_callp tt_102 rfl rfl rfl rfl rfl tt_5 rfl (by decide) (at_i0 z σ2 84 6000 (v1) rfl (by decide) r7) ?_
          show wx z 1 102 20 [(0, .inr (.inr (.ref 77))), (1, .inr (.inr (.ref 84))), (2, .inl (a2)), (3, .inl (v1))] [.inl ((sx_at σ2 84 6000 (v1))), .inr (.inr (.ref 77))] σ2 (fun v σ' => v = none ∧ sg_F [78, 16077, 17077] σ σ' ∧ Q σ')
          rw [sx_F (a := 84) (n := 6000) (i := (v1)) hF3 rfl]
          refine wk_call tt_102 rfl rfl rfl rfl rfl tt_116 rfl (by decide) (w_lStore z σ2 ((sx_at σ 84 6000 (v1))) _ (sx_R ..) w) (fun u23 σ19 hq21 => ?_)
          obtain ⟨rfl, hF20, w⟩ := hq21
          have w := w hF20
          obtain ⟨c24, w⟩ := w
          refine wk_b tt_102 2 (pc' := 2) (ls' := [(3, .inl ((v1 + 1))), (0, .inr (.inr (.ref 77))), (1, .inr (.inr (.ref 84))), (2, .inl (a2))]) (st' := []) (σ' := σ19) rfl ?_
          obtain ⟨m25, hm25, w⟩ := w
          exact wk_ls [(0, .inr (.inr (.ref 77))), (1, .inr (.inr (.ref 84))), (2, .inl (a2)), (3, .inl ((v1 + 1)))] rfl ⟨rfl, rfl, rfl, rfl, trivial⟩ (ih8 m25 hm25 ((v1 + 1)) σ19 c24 (sg_F_t (sg_F_t (sg_F_r [78, 16077, 17077] σ) (sg_F_m (L := [78, 16077, 17077]) hF3 rfl)) (sg_F_m (L := [78, 16077, 17077]) hF20 rfl)) w)
  exact wk_ls [(0, .inr (.inr (.ref 77))), (1, .inr (.inr (.ref 84))), (2, .inl (a2)), (3, .inl (0))] rfl ⟨rfl, rfl, rfl, rfl, trivial⟩ (lp10 μ5 (0) σ (by decide) (sg_F_r _ _) w11)
-- NestedVectors$Lanes.copy
def V_lCopy83 (σ : sg_S) (a2 : Int) (Q : sg_S → Prop) : Prop := (∃ (I4 : Nat → Int → sg_S → Prop) (X6 : sg_S → Prop), (∃ n, I4 n (0) σ) ∧ (∀ (n14 : Nat) (v1 : Int) (σ2 : sg_S), sg_R v1 → sg_F [78, 16077, 17077] σ σ2 → I4 n14 v1 σ2 → ((a2 ≤ v1 → X6 σ2) ∧ (v1 < a2 → ((¬ (sg_g σ2 77 15) = 0 → X6 σ2) ∧ ((sg_g σ2 77 15) = 0 → V_lStore σ2 ((sx_at σ 83 6000 (v1))) (fun σ19 => sg_F [78, 16077, 17077] σ2 σ19 → sg_R (v1 + 1) ∧ (∃ m, m < n14 ∧ I4 m ((v1 + 1)) σ19))))))) ∧ (∀ (σ2 : sg_S), sg_F [78, 16077, 17077] σ σ2 → X6 σ2 → Q σ2))
set_option maxHeartbeats 4000000 in
set_option maxRecDepth 8000 in
theorem w_lCopy83 (z : Value) (σ : sg_S) (a2 : Int) (Q : sg_S → Prop) (ra2 : sg_R a2) (w : V_lCopy83 σ a2 Q) : wx z 1 102 0 [(0, .inr (.inr (.ref 77))), (1, .inr (.inr (.ref 83))), (2, .inl (a2))] [] σ (fun v σ' => v = none ∧ sg_F [78, 16077, 17077] σ σ' ∧ Q σ') := by
  unfold V_lCopy83 at w
  refine wk_b tt_102 2 (pc' := 2) (ls' := [(3, .inl (0)), (0, .inr (.inr (.ref 77))), (1, .inr (.inr (.ref 83))), (2, .inl (a2))]) (st' := []) (σ' := σ) rfl ?_
  obtain ⟨I4, X6, ⟨μ5, w11⟩, w12, w13⟩ := w
  have ex15 : ∀ (σ2 : sg_S), sg_F [78, 16077, 17077] σ σ2 → X6 σ2 → wx z 1 102 29 [] [] σ2 (fun v σ' => v = none ∧ sg_F [78, 16077, 17077] σ σ' ∧ Q σ') := by
    intro σ2 hF3 w
    have w := w13 σ2 hF3 w
    exact wk_rV tt_102 rfl rfl ⟨rfl, (sg_F_t (sg_F_r [78, 16077, 17077] σ) (sg_F_m (L := [78, 16077, 17077]) hF3 rfl)), w⟩
  have lp10 : ∀ (n14 : Nat) (v1 : Int) (σ2 : sg_S), sg_R v1 → sg_F [78, 16077, 17077] σ σ2 → I4 n14 v1 σ2 → wx z 1 102 2 [(0, .inr (.inr (.ref 77))), (1, .inr (.inr (.ref 83))), (2, .inl (a2)), (3, .inl (v1))] [] σ2 (fun v σ' => v = none ∧ sg_F [78, 16077, 17077] σ σ' ∧ Q σ') := by
    intro n14
    induction n14 using Nat.strongRecOn with
    | _ n14 ih8 =>
      intro v1 σ2 r7 hF3 w
      have w := w12 n14 v1 σ2 r7 hF3 w
      refine wk_b tt_102 2 (pc' := 4) (ls' := [(0, .inr (.inr (.ref 77))), (1, .inr (.inr (.ref 83))), (2, .inl (a2)), (3, .inl (v1))]) (st' := [.inl (a2), .inl (v1)]) (σ' := σ2) rfl ?_
      refine wk_if2 tt_102 (tgt := 29) rfl rfl r7 ra2 (fun (h16 : a2 ≤ v1) => ?_) (fun (h16 : v1 < a2) => ?_)
      ·
        have w := w.1 h16
        exact wk_ls [] rfl trivial (ex15  σ2  (sg_F_t (sg_F_r [78, 16077, 17077] σ) (sg_F_m (L := [78, 16077, 17077]) hF3 rfl)) w)
      ·
        have w := w.2 h16
        refine wk_b tt_102 2 (pc' := 11) (ls' := [(0, .inr (.inr (.ref 77))), (1, .inr (.inr (.ref 83))), (2, .inl (a2)), (3, .inl (v1))]) (st' := [.inl ((sg_g σ2 77 15))]) (σ' := σ2) rfl ?_
        refine wk_if tt_102 (tgt := 29) rfl rfl (sg_Rg _ _ _) (fun (h17 : ¬ (sg_g σ2 77 15) = 0) => ?_) (fun (h17 : (sg_g σ2 77 15) = 0) => ?_)
        ·
          have w := w.1 h17
          exact wk_ls [] rfl trivial (ex15  σ2  (sg_F_t (sg_F_r [78, 16077, 17077] σ) (sg_F_m (L := [78, 16077, 17077]) hF3 rfl)) w)
        ·
          have w := w.2 h17
          refine wk_b tt_102 3 (pc' := 17) (ls' := [(0, .inr (.inr (.ref 77))), (1, .inr (.inr (.ref 83))), (2, .inl (a2)), (3, .inl (v1))]) (st' := [.inl (v1), .inr (.inr (.ref 83)), .inr (.inr (.ref 77))]) (σ' := σ2) rfl ?_
          refine wk_callp tt_102 rfl rfl rfl rfl rfl tt_5 rfl (by decide) (at_i0 z σ2 83 6000 (v1) rfl (by decide) r7) ?_
          show wx z 1 102 20 [(0, .inr (.inr (.ref 77))), (1, .inr (.inr (.ref 83))), (2, .inl (a2)), (3, .inl (v1))] [.inl ((sx_at σ2 83 6000 (v1))), .inr (.inr (.ref 77))] σ2 (fun v σ' => v = none ∧ sg_F [78, 16077, 17077] σ σ' ∧ Q σ')
          rw [sx_F (a := 83) (n := 6000) (i := (v1)) hF3 rfl]
          refine wk_call tt_102 rfl rfl rfl rfl rfl tt_116 rfl (by decide) (w_lStore z σ2 ((sx_at σ 83 6000 (v1))) _ (sx_R ..) w) (fun u23 σ19 hq21 => ?_)
          obtain ⟨rfl, hF20, w⟩ := hq21
          have w := w hF20
          obtain ⟨c24, w⟩ := w
          refine wk_b tt_102 2 (pc' := 2) (ls' := [(3, .inl ((v1 + 1))), (0, .inr (.inr (.ref 77))), (1, .inr (.inr (.ref 83))), (2, .inl (a2))]) (st' := []) (σ' := σ19) rfl ?_
          obtain ⟨m25, hm25, w⟩ := w
          exact wk_ls [(0, .inr (.inr (.ref 77))), (1, .inr (.inr (.ref 83))), (2, .inl (a2)), (3, .inl ((v1 + 1)))] rfl ⟨rfl, rfl, rfl, rfl, trivial⟩ (ih8 m25 hm25 ((v1 + 1)) σ19 c24 (sg_F_t (sg_F_t (sg_F_r [78, 16077, 17077] σ) (sg_F_m (L := [78, 16077, 17077]) hF3 rfl)) (sg_F_m (L := [78, 16077, 17077]) hF20 rfl)) w)
  exact wk_ls [(0, .inr (.inr (.ref 77))), (1, .inr (.inr (.ref 83))), (2, .inl (a2)), (3, .inl (0))] rfl ⟨rfl, rfl, rfl, rfl, trivial⟩ (lp10 μ5 (0) σ (by decide) (sg_F_r _ _) w11)
-- NestedVectors$Lanes.step
def V_lStep (σ : sg_S) (Q : Int → sg_S → Prop) : Prop := (((sg_g σ 77 17) < 2000 → sg_R ((sg_g σ 77 17) + 1) ∧ ∀ σ3, σ3 = (sg_w σ 77 17 (((sg_g σ 77 17) + 1))) → Q (1) σ3) ∧ (2000 ≤ (sg_g σ 77 17) → ∀ σ6, σ6 = (sg_w σ 77 18 (8)) → Q (0) σ6))
set_option maxHeartbeats 4000000 in
set_option maxRecDepth 8000 in
theorem w_lStep (z : Value) (σ : sg_S) (Q : Int → sg_S → Prop)  (w : V_lStep σ  Q) : wx z 0 115 0 [(0, .inr (.inr (.ref 77)))] [] σ (fun v σ' => ∃ q, v = some (.inl q) ∧ (q = 0 ∨ q = 1) ∧ sg_F [18077, 19077] σ σ' ∧ Q q σ') := by
  unfold V_lStep at w
  refine wk_b tt_115 3 (pc' := 7) (ls' := [(0, .inr (.inr (.ref 77)))]) (st' := [.inl (2000), .inl ((sg_g σ 77 17))]) (σ' := σ) rfl ?_
  refine wk_if2 tt_115 (tgt := 18) rfl rfl (sg_Rg _ _ _) (by decide) (fun (h1 : (sg_g σ 77 17) < 2000) => ?_) (fun (h1 : 2000 ≤ (sg_g σ 77 17)) => ?_)
  ·
    have w := w.1 h1
    obtain ⟨c2, w⟩ := w
    refine wk_b tt_115 6 (pc' := 28) (ls' := [(0, .inr (.inr (.ref 77)))]) (st' := []) (σ' := (sg_w σ 77 17 (((sg_g σ 77 17) + 1)))) rfl ?_
    generalize hs4 : (sg_w σ 77 17 (((sg_g σ 77 17) + 1))) = σ3
    have w := w σ3 hs4.symm
    have hF5 : sg_F [18077] σ σ3 := by rw [← hs4]; exact sg_F_w (sg_F_r _ _) rfl _
    refine wk_b tt_115 1 (pc' := 29) (ls' := [(0, .inr (.inr (.ref 77)))]) (st' := [.inl (1)]) (σ' := σ3) rfl ?_
    exact wk_rZ tt_115 rfl rfl (by decide) ⟨_, rfl, (by decide), (sg_F_t (sg_F_r [18077, 19077] σ) (sg_F_m (L := [18077, 19077]) hF5 rfl)), w⟩
  ·
    have w := w.2 h1
    refine wk_b tt_115 3 (pc' := 16) (ls' := [(0, .inr (.inr (.ref 77)))]) (st' := []) (σ' := (sg_w σ 77 18 (8))) rfl ?_
    generalize hs7 : (sg_w σ 77 18 (8)) = σ6
    have w := w σ6 hs7.symm
    have hF8 : sg_F [19077] σ σ6 := by rw [← hs7]; exact sg_F_w (sg_F_r _ _) rfl _
    refine wk_b tt_115 1 (pc' := 17) (ls' := [(0, .inr (.inr (.ref 77)))]) (st' := [.inl (0)]) (σ' := σ6) rfl ?_
    exact wk_rZ tt_115 rfl rfl (by decide) ⟨_, rfl, (by decide), (sg_F_t (sg_F_r [18077, 19077] σ) (sg_F_m (L := [18077, 19077]) hF8 rfl)), w⟩
-- NestedVectors$Lanes.seal
def V_lSeal (σ : sg_S) (a1 : Int) (a2 : Int) (Q : Int → sg_S → Prop) : Prop := (∃ (I4 : Nat → Int → sg_S → Prop) (X6 : sg_S → Prop), (∃ n, I4 n (0) σ) ∧ (∀ (n14 : Nat) (v1 : Int) (σ2 : sg_S), sg_R v1 → sg_F [78, 79, 80, 81, 82, 85, 86, 87, 11077, 16077, 17077] σ σ2 → I4 n14 v1 σ2 → ((a1 < v1 → X6 σ2) ∧ (v1 ≤ a1 → ((¬ (sg_g σ2 77 15) = 0 → X6 σ2) ∧ ((sg_g σ2 77 15) = 0 → ∀ σ52, σ52 = (sx_put σ2 80 8000 ((sg_g σ2 77 10)) ((sg_g σ2 77 16))) → ((a1 ≤ v1 → True) ∧ (v1 < a1 → sg_R ((sg_g σ2 77 10) + 1) ∧ True)) ∧ ∀ v57 : Int, v57 = (if a1 ≤ v1 then ((-1) : Int) else ((sg_g σ2 77 10) + 1)) → sg_R v57 → ∀ σ60, σ60 = (sx_put σ52 82 8000 ((sg_g σ2 77 10)) (v57)) → (∃ P65 : sg_S → Prop, ((v1 < a2 → ((¬ v1 = 0 → ∀ v94 : Int, v94 = (if ¬ v1 = 0 then (sg_g σ 77 12) else (sg_g σ 77 11)) → sg_R v94 → V_lCopy84 σ60 (v94) (fun σ98 => sg_F [78, 16077, 17077] σ60 σ98 → P65 σ98)) ∧ (v1 = 0 → ∀ v105 : Int, v105 = (if ¬ v1 = 0 then (sg_g σ 77 12) else (sg_g σ 77 11)) → sg_R v105 → V_lCopy83 σ60 (v105) (fun σ109 => sg_F [78, 16077, 17077] σ60 σ109 → P65 σ109)))) ∧ (a2 ≤ v1 → V_lCopyPicks σ60  (fun σ115 => sg_F [78, 85, 86, 87, 16077, 17077] σ60 σ115 → P65 σ115))) ∧ (∀ (σ66 : sg_S), sg_F [78, 85, 86, 87, 16077, 17077] σ60 σ66 → P65 σ66 → sg_R ((sg_g σ66 77 16) - (sx_at σ52 80 8000 ((sg_g σ2 77 10)))) ∧ ∀ σ70, σ70 = (sx_put σ66 81 8000 ((sg_g σ2 77 10)) (((sg_g σ66 77 16) - (sx_at σ52 80 8000 ((sg_g σ2 77 10)))))) → (∃ P75 : sg_S → Prop, ((a1 ≤ v1 → P75 σ70) ∧ (v1 < a1 → V_lLayOut σ70 ((sg_g σ2 77 10)) (fun σ86 => sg_F [79] σ70 σ86 → P75 σ86))) ∧ (∀ (σ76 : sg_S), sg_F [79] σ70 σ76 → P75 σ76 → sg_R ((sg_g σ2 77 10) + 1) ∧ ∀ σ80, σ80 = (sg_w σ76 77 10 (((sg_g σ2 77 10) + 1))) → sg_R (v1 + 1) ∧ (∃ m, m < n14 ∧ I4 m ((v1 + 1)) σ80)))))))))) ∧ (∀ (σ2 : sg_S), sg_F [78, 79, 80, 81, 82, 85, 86, 87, 11077, 16077, 17077] σ σ2 → X6 σ2 → (∃ P18 : sg_S → Prop, ((¬ (sg_g σ2 77 15) = 0 → ∀ σ28, σ28 = (sg_w σ2 77 18 (8)) → ∀ σ31, σ31 = (sg_w σ28 77 16 ((sg_g σ 77 16))) → P18 σ31) ∧ ((sg_g σ2 77 15) = 0 → V_lStep σ2  (fun q34 σ35 => (q34 = 0 ∨ q34 = 1) → sg_F [18077, 19077] σ2 σ35 → ((¬ q34 = 0 → ∀ σ41, σ41 = (sg_w σ35 77 18 ((sg_g σ 77 14))) → P18 σ41) ∧ (q34 = 0 → ∀ σ44, σ44 = (sg_w σ35 77 18 (8)) → ∀ σ47, σ47 = (sg_w σ44 77 16 ((sg_g σ 77 16))) → P18 σ47))))) ∧ (∀ (σ19 : sg_S), sg_F [17077, 18077, 19077] σ2 σ19 → P18 σ19 → V_lReset σ19  (fun σ23 => sg_F [12077, 13077, 14077, 15077, 16077] σ19 σ23 → Q ((sg_g σ 77 10)) σ23)))))
set_option maxHeartbeats 4000000 in
set_option maxRecDepth 8000 in
theorem w_lSeal (z : Value) (σ : sg_S) (a1 : Int) (a2 : Int) (Q : Int → sg_S → Prop) (ra1 : sg_R a1) (ra2 : sg_R a2) (w : V_lSeal σ a1 a2 Q) : wx z 2 111 0 [(0, .inr (.inr (.ref 77))), (1, .inl (a1)), (2, .inl (a2))] [] σ (fun v σ' => ∃ q, v = some (.inl q) ∧ sg_R q ∧ sg_F [78, 79, 80, 81, 82, 85, 86, 87, 11077, 12077, 13077, 14077, 15077, 16077, 17077, 18077, 19077] σ σ' ∧ Q q σ') := by
  unfold V_lSeal at w
  refine wk_b tt_111 8 (pc' := 14) (ls' := [(5, .inl (0)), (4, .inl ((sg_g σ 77 10))), (3, .inl ((sg_g σ 77 16))), (0, .inr (.inr (.ref 77))), (1, .inl (a1)), (2, .inl (a2))]) (st' := []) (σ' := σ) rfl ?_
  obtain ⟨I4, X6, ⟨μ5, w11⟩, w12, w13⟩ := w
  have ex15 : ∀ (σ2 : sg_S), sg_F [78, 79, 80, 81, 82, 85, 86, 87, 11077, 16077, 17077] σ σ2 → X6 σ2 → wx z 2 111 175 [(0, .inr (.inr (.ref 77))), (3, .inl ((sg_g σ 77 16))), (4, .inl ((sg_g σ 77 10)))] [] σ2 (fun v σ' => ∃ q, v = some (.inl q) ∧ sg_R q ∧ sg_F [78, 79, 80, 81, 82, 85, 86, 87, 11077, 12077, 13077, 14077, 15077, 16077, 17077, 18077, 19077] σ σ' ∧ Q q σ') := by
    intro σ2 hF3 w
    have w := w13 σ2 hF3 w
    refine wk_b tt_111 2 (pc' := 179) (ls' := [(0, .inr (.inr (.ref 77))), (3, .inl ((sg_g σ 77 16))), (4, .inl ((sg_g σ 77 10)))]) (st' := [.inl ((sg_g σ2 77 15))]) (σ' := σ2) rfl ?_
    obtain ⟨P18, w, w21⟩ := w
    have jn17 : ∀ (σ19 : sg_S), sg_F [17077, 18077, 19077] σ2 σ19 → P18 σ19 → wx z 2 111 211 [(0, .inr (.inr (.ref 77))), (4, .inl ((sg_g σ 77 10)))] [] σ19 (fun v σ' => ∃ q, v = some (.inl q) ∧ sg_R q ∧ sg_F [78, 79, 80, 81, 82, 85, 86, 87, 11077, 12077, 13077, 14077, 15077, 16077, 17077, 18077, 19077] σ σ' ∧ Q q σ') := by
      intro σ19 hF20 w
      have w := w21 σ19 hF20 w
      refine wk_b tt_111 1 (pc' := 212) (ls' := [(0, .inr (.inr (.ref 77))), (4, .inl ((sg_g σ 77 10)))]) (st' := [.inr (.inr (.ref 77))]) (σ' := σ19) rfl ?_
      refine wk_call tt_111 rfl rfl rfl rfl rfl tt_110 rfl (by decide) (w_lReset z σ19  _  w) (fun u27 σ23 hq25 => ?_)
      obtain ⟨rfl, hF24, w⟩ := hq25
      have w := w hF24
      refine wk_b tt_111 1 (pc' := 217) (ls' := [(0, .inr (.inr (.ref 77))), (4, .inl ((sg_g σ 77 10)))]) (st' := [.inl ((sg_g σ 77 10))]) (σ' := σ23) rfl ?_
      exact wk_rI tt_111 rfl rfl ⟨_, rfl, (sg_Rg _ _ _), (sg_F_t (sg_F_t (sg_F_t (sg_F_r [78, 79, 80, 81, 82, 85, 86, 87, 11077, 12077, 13077, 14077, 15077, 16077, 17077, 18077, 19077] σ) (sg_F_m (L := [78, 79, 80, 81, 82, 85, 86, 87, 11077, 12077, 13077, 14077, 15077, 16077, 17077, 18077, 19077]) hF3 rfl)) (sg_F_m (L := [78, 79, 80, 81, 82, 85, 86, 87, 11077, 12077, 13077, 14077, 15077, 16077, 17077, 18077, 19077]) hF20 rfl)) (sg_F_m (L := [78, 79, 80, 81, 82, 85, 86, 87, 11077, 12077, 13077, 14077, 15077, 16077, 17077, 18077, 19077]) hF24 rfl)), w⟩
    refine wk_if tt_111 (tgt := 189) rfl rfl (sg_Rg _ _ _) (fun (h16 : ¬ (sg_g σ2 77 15) = 0) => ?_) (fun (h16 : (sg_g σ2 77 15) = 0) => ?_)
    ·
      have w := w.1 h16
      refine wk_b tt_111 3 (pc' := 195) (ls' := [(0, .inr (.inr (.ref 77))), (3, .inl ((sg_g σ 77 16))), (4, .inl ((sg_g σ 77 10)))]) (st' := []) (σ' := (sg_w σ2 77 18 (8))) rfl ?_
      generalize hs29 : (sg_w σ2 77 18 (8)) = σ28
      have w := w σ28 hs29.symm
      have hF30 : sg_F [19077] σ2 σ28 := by rw [← hs29]; exact sg_F_w (sg_F_r _ _) rfl _
      refine wk_b tt_111 3 (pc' := 200) (ls' := [(0, .inr (.inr (.ref 77))), (3, .inl ((sg_g σ 77 16))), (4, .inl ((sg_g σ 77 10)))]) (st' := []) (σ' := (sg_w σ28 77 16 ((sg_g σ 77 16)))) rfl ?_
      generalize hs32 : (sg_w σ28 77 16 ((sg_g σ 77 16))) = σ31
      have w := w σ31 hs32.symm
      have hF33 : sg_F [17077] σ28 σ31 := by rw [← hs32]; exact sg_F_w (sg_F_r _ _) rfl _
      refine wk_b tt_111 1 (pc' := 211) (ls' := [(0, .inr (.inr (.ref 77))), (3, .inl ((sg_g σ 77 16))), (4, .inl ((sg_g σ 77 10)))]) (st' := []) (σ' := σ31) rfl ?_
      exact wk_ls [(0, .inr (.inr (.ref 77))), (4, .inl ((sg_g σ 77 10)))] rfl ⟨rfl, rfl, trivial⟩ (jn17 σ31 (sg_F_t (sg_F_t (sg_F_r [17077, 18077, 19077] σ2) (sg_F_m (L := [17077, 18077, 19077]) hF30 rfl)) (sg_F_m (L := [17077, 18077, 19077]) hF33 rfl)) w)
    ·
      have w := w.2 h16
      refine wk_b tt_111 1 (pc' := 183) (ls' := [(0, .inr (.inr (.ref 77))), (3, .inl ((sg_g σ 77 16))), (4, .inl ((sg_g σ 77 10)))]) (st' := [.inr (.inr (.ref 77))]) (σ' := σ2) rfl ?_
      refine wk_call tt_111 rfl rfl rfl rfl rfl tt_115 rfl (by decide) (w_lStep z σ2  _  w) (fun u39 σ35 hq37 => ?_)
      obtain ⟨q34, rfl, r38, hF36, w⟩ := hq37
      have w := w r38 hF36
      refine wk_if tt_111 (tgt := 203) rfl rfl (sg_Rz r38) (fun (h40 : ¬ q34 = 0) => ?_) (fun (h40 : q34 = 0) => ?_)
      ·
        have w := w.1 h40
        refine wk_b tt_111 4 (pc' := 211) (ls' := [(0, .inr (.inr (.ref 77))), (3, .inl ((sg_g σ 77 16))), (4, .inl ((sg_g σ 77 10)))]) (st' := []) (σ' := (sg_w σ35 77 18 ((sg_g σ35 77 14)))) rfl ?_
        rw [show (sg_g σ35 77 14) = (sg_g σ 77 14) from by rw [sg_F_g hF36 rfl, sg_F_g hF3 rfl]]
        generalize hs42 : (sg_w σ35 77 18 ((sg_g σ 77 14))) = σ41
        have w := w σ41 hs42.symm
        have hF43 : sg_F [19077] σ35 σ41 := by rw [← hs42]; exact sg_F_w (sg_F_r _ _) rfl _
        exact wk_ls [(0, .inr (.inr (.ref 77))), (4, .inl ((sg_g σ 77 10)))] rfl ⟨rfl, rfl, trivial⟩ (jn17 σ41 (sg_F_t (sg_F_t (sg_F_r [17077, 18077, 19077] σ2) (sg_F_m (L := [17077, 18077, 19077]) hF36 rfl)) (sg_F_m (L := [17077, 18077, 19077]) hF43 rfl)) w)
      ·
        have w := w.2 h40
        refine wk_b tt_111 3 (pc' := 195) (ls' := [(0, .inr (.inr (.ref 77))), (3, .inl ((sg_g σ 77 16))), (4, .inl ((sg_g σ 77 10)))]) (st' := []) (σ' := (sg_w σ35 77 18 (8))) rfl ?_
        generalize hs45 : (sg_w σ35 77 18 (8)) = σ44
        have w := w σ44 hs45.symm
        have hF46 : sg_F [19077] σ35 σ44 := by rw [← hs45]; exact sg_F_w (sg_F_r _ _) rfl _
        refine wk_b tt_111 3 (pc' := 200) (ls' := [(0, .inr (.inr (.ref 77))), (3, .inl ((sg_g σ 77 16))), (4, .inl ((sg_g σ 77 10)))]) (st' := []) (σ' := (sg_w σ44 77 16 ((sg_g σ 77 16)))) rfl ?_
        generalize hs48 : (sg_w σ44 77 16 ((sg_g σ 77 16))) = σ47
        have w := w σ47 hs48.symm
        have hF49 : sg_F [17077] σ44 σ47 := by rw [← hs48]; exact sg_F_w (sg_F_r _ _) rfl _
        refine wk_b tt_111 1 (pc' := 211) (ls' := [(0, .inr (.inr (.ref 77))), (3, .inl ((sg_g σ 77 16))), (4, .inl ((sg_g σ 77 10)))]) (st' := []) (σ' := σ47) rfl ?_
        exact wk_ls [(0, .inr (.inr (.ref 77))), (4, .inl ((sg_g σ 77 10)))] rfl ⟨rfl, rfl, trivial⟩ (jn17 σ47 (sg_F_t (sg_F_t (sg_F_t (sg_F_r [17077, 18077, 19077] σ2) (sg_F_m (L := [17077, 18077, 19077]) hF36 rfl)) (sg_F_m (L := [17077, 18077, 19077]) hF46 rfl)) (sg_F_m (L := [17077, 18077, 19077]) hF49 rfl)) w)
  have lp10 : ∀ (n14 : Nat) (v1 : Int) (σ2 : sg_S), sg_R v1 → sg_F [78, 79, 80, 81, 82, 85, 86, 87, 11077, 16077, 17077] σ σ2 → I4 n14 v1 σ2 → wx z 2 111 14 [(0, .inr (.inr (.ref 77))), (1, .inl (a1)), (2, .inl (a2)), (3, .inl ((sg_g σ 77 16))), (4, .inl ((sg_g σ 77 10))), (5, .inl (v1))] [] σ2 (fun v σ' => ∃ q, v = some (.inl q) ∧ sg_R q ∧ sg_F [78, 79, 80, 81, 82, 85, 86, 87, 11077, 12077, 13077, 14077, 15077, 16077, 17077, 18077, 19077] σ σ' ∧ Q q σ') := by
    intro n14
    induction n14 using Nat.strongRecOn with
    | _ n14 ih8 =>
      intro v1 σ2 r7 hF3 w
      have w := w12 n14 v1 σ2 r7 hF3 w
      refine wk_b tt_111 2 (pc' := 17) (ls' := [(0, .inr (.inr (.ref 77))), (1, .inl (a1)), (2, .inl (a2)), (3, .inl ((sg_g σ 77 16))), (4, .inl ((sg_g σ 77 10))), (5, .inl (v1))]) (st' := [.inl (a1), .inl (v1)]) (σ' := σ2) rfl ?_
      refine wk_if2 tt_111 (tgt := 175) rfl rfl r7 ra1 (fun (h50 : a1 < v1) => ?_) (fun (h50 : v1 ≤ a1) => ?_)
      ·
        have w := w.1 h50
        exact wk_ls [(0, .inr (.inr (.ref 77))), (3, .inl ((sg_g σ 77 16))), (4, .inl ((sg_g σ 77 10)))] rfl ⟨rfl, rfl, rfl, trivial⟩ (ex15  σ2  (sg_F_t (sg_F_r [78, 79, 80, 81, 82, 85, 86, 87, 11077, 16077, 17077] σ) (sg_F_m (L := [78, 79, 80, 81, 82, 85, 86, 87, 11077, 16077, 17077]) hF3 rfl)) w)
      ·
        have w := w.2 h50
        refine wk_b tt_111 2 (pc' := 24) (ls' := [(0, .inr (.inr (.ref 77))), (1, .inl (a1)), (2, .inl (a2)), (3, .inl ((sg_g σ 77 16))), (4, .inl ((sg_g σ 77 10))), (5, .inl (v1))]) (st' := [.inl ((sg_g σ2 77 15))]) (σ' := σ2) rfl ?_
        refine wk_if tt_111 (tgt := 175) rfl rfl (sg_Rg _ _ _) (fun (h51 : ¬ (sg_g σ2 77 15) = 0) => ?_) (fun (h51 : (sg_g σ2 77 15) = 0) => ?_)
        ·
          have w := w.1 h51
          exact wk_ls [(0, .inr (.inr (.ref 77))), (3, .inl ((sg_g σ 77 16))), (4, .inl ((sg_g σ 77 10)))] rfl ⟨rfl, rfl, rfl, trivial⟩ (ex15  σ2  (sg_F_t (sg_F_r [78, 79, 80, 81, 82, 85, 86, 87, 11077, 16077, 17077] σ) (sg_F_m (L := [78, 79, 80, 81, 82, 85, 86, 87, 11077, 16077, 17077]) hF3 rfl)) w)
        ·
          have w := w.2 h51
          refine wk_b tt_111 6 (pc' := 39) (ls' := [(0, .inr (.inr (.ref 77))), (1, .inl (a1)), (2, .inl (a2)), (3, .inl ((sg_g σ 77 16))), (4, .inl ((sg_g σ 77 10))), (5, .inl (v1))]) (st' := [.inl ((sg_g σ2 77 16)), .inl ((sg_g σ2 77 10)), .inr (.inr (.ref 80))]) (σ' := σ2) rfl ?_
          refine wk_callp tt_111 rfl rfl rfl rfl rfl tt_21 rfl (by decide) (pt_i0 z σ2 80 8000 ((sg_g σ2 77 10)) ((sg_g σ2 77 16)) rfl (by decide) (sg_Rg _ _ _)) ?_
          show wx z 2 111 42 [(0, .inr (.inr (.ref 77))), (1, .inl (a1)), (2, .inl (a2)), (3, .inl ((sg_g σ 77 16))), (4, .inl ((sg_g σ 77 10))), (5, .inl (v1))] [] (sx_put σ2 80 8000 ((sg_g σ2 77 10)) ((sg_g σ2 77 16))) (fun v σ' => ∃ q, v = some (.inl q) ∧ sg_R q ∧ sg_F [78, 79, 80, 81, 82, 85, 86, 87, 11077, 12077, 13077, 14077, 15077, 16077, 17077, 18077, 19077] σ σ' ∧ Q q σ')
          generalize hs53 : (sx_put σ2 80 8000 ((sg_g σ2 77 10)) ((sg_g σ2 77 16))) = σ52
          have w := w σ52 hs53.symm
          have hF54 : sg_F [80] σ2 σ52 := by rw [← hs53]; exact sg_F_p (sg_F_r _ _) rfl _ _ _
          refine wk_b tt_111 6 (pc' := 53) (ls' := [(0, .inr (.inr (.ref 77))), (1, .inl (a1)), (2, .inl (a2)), (3, .inl ((sg_g σ 77 16))), (4, .inl ((sg_g σ 77 10))), (5, .inl (v1))]) (st' := [.inl (a1), .inl (v1), .inl ((sg_g σ52 77 10)), .inr (.inr (.ref 82))]) (σ' := σ52) rfl ?_
          rw [show (sg_g σ52 77 10) = (sg_g σ2 77 10) from by rw [sg_F_ga hF54 rfl]]
          obtain ⟨wp, w⟩ := w
          have jn56 : ∀ v57 : Int, v57 = (if a1 ≤ v1 then ((-1) : Int) else ((sg_g σ2 77 10) + 1)) → sg_R v57 → wx z 2 111 66 [(0, .inr (.inr (.ref 77))), (1, .inl (a1)), (2, .inl (a2)), (3, .inl ((sg_g σ 77 16))), (4, .inl ((sg_g σ 77 10))), (5, .inl (v1))] [.inl (v57), .inl ((sg_g σ2 77 10)), .inr (.inr (.ref 82))] σ52 (fun v σ' => ∃ q, v = some (.inl q) ∧ sg_R q ∧ sg_F [78, 79, 80, 81, 82, 85, 86, 87, 11077, 12077, 13077, 14077, 15077, 16077, 17077, 18077, 19077] σ σ' ∧ Q q σ') := by
            intro v57 e59 r58
            have w := w v57 e59 r58
            refine wk_callp tt_111 rfl rfl rfl rfl rfl tt_21 rfl (by decide) (pt_i0 z σ52 82 8000 ((sg_g σ2 77 10)) (v57) rfl (by decide) (sg_Rg _ _ _)) ?_
            show wx z 2 111 69 [(0, .inr (.inr (.ref 77))), (1, .inl (a1)), (2, .inl (a2)), (3, .inl ((sg_g σ 77 16))), (4, .inl ((sg_g σ 77 10))), (5, .inl (v1))] [] (sx_put σ52 82 8000 ((sg_g σ2 77 10)) (v57)) (fun v σ' => ∃ q, v = some (.inl q) ∧ sg_R q ∧ sg_F [78, 79, 80, 81, 82, 85, 86, 87, 11077, 12077, 13077, 14077, 15077, 16077, 17077, 18077, 19077] σ σ' ∧ Q q σ')
            generalize hs61 : (sx_put σ52 82 8000 ((sg_g σ2 77 10)) (v57)) = σ60
            have w := w σ60 hs61.symm
            have hF62 : sg_F [82] σ52 σ60 := by rw [← hs61]; exact sg_F_p (sg_F_r _ _) rfl _ _ _
            refine wk_b tt_111 2 (pc' := 72) (ls' := [(0, .inr (.inr (.ref 77))), (1, .inl (a1)), (2, .inl (a2)), (3, .inl ((sg_g σ 77 16))), (4, .inl ((sg_g σ 77 10))), (5, .inl (v1))]) (st' := [.inl (a2), .inl (v1)]) (σ' := σ60) rfl ?_
            obtain ⟨P65, w, w68⟩ := w
            have jn64 : ∀ (σ66 : sg_S), sg_F [78, 85, 86, 87, 16077, 17077] σ60 σ66 → P65 σ66 → wx z 2 111 118 [(0, .inr (.inr (.ref 77))), (1, .inl (a1)), (2, .inl (a2)), (3, .inl ((sg_g σ 77 16))), (4, .inl ((sg_g σ 77 10))), (5, .inl (v1))] [] σ66 (fun v σ' => ∃ q, v = some (.inl q) ∧ sg_R q ∧ sg_F [78, 79, 80, 81, 82, 85, 86, 87, 11077, 12077, 13077, 14077, 15077, 16077, 17077, 18077, 19077] σ σ' ∧ Q q σ') := by
              intro σ66 hF67 w
              have w := w68 σ66 hF67 w
              refine wk_b tt_111 10 (pc' := 138) (ls' := [(0, .inr (.inr (.ref 77))), (1, .inl (a1)), (2, .inl (a2)), (3, .inl ((sg_g σ 77 16))), (4, .inl ((sg_g σ 77 10))), (5, .inl (v1))]) (st' := [.inl ((sg_g σ66 77 10)), .inr (.inr (.ref 80)), .inl ((sg_g σ66 77 16)), .inl ((sg_g σ66 77 10)), .inr (.inr (.ref 81))]) (σ' := σ66) rfl ?_
              rw [show (sg_g σ66 77 10) = (sg_g σ2 77 10) from by rw [sg_F_g hF67 rfl, sg_F_ga hF62 rfl, sg_F_ga hF54 rfl]]
              refine wk_callp tt_111 rfl rfl rfl rfl rfl tt_5 rfl (by decide) (at_i0 z σ66 80 8000 ((sg_g σ2 77 10)) rfl (by decide) (sg_Rg _ _ _)) ?_
              show wx z 2 111 141 [(0, .inr (.inr (.ref 77))), (1, .inl (a1)), (2, .inl (a2)), (3, .inl ((sg_g σ 77 16))), (4, .inl ((sg_g σ 77 10))), (5, .inl (v1))] [.inl ((sx_at σ66 80 8000 ((sg_g σ2 77 10)))), .inl ((sg_g σ66 77 16)), .inl ((sg_g σ2 77 10)), .inr (.inr (.ref 81))] σ66 (fun v σ' => ∃ q, v = some (.inl q) ∧ sg_R q ∧ sg_F [78, 79, 80, 81, 82, 85, 86, 87, 11077, 12077, 13077, 14077, 15077, 16077, 17077, 18077, 19077] σ σ' ∧ Q q σ')
              rw [sx_F (a := 80) (n := 8000) (i := ((sg_g σ2 77 10))) hF67 rfl, sx_F (a := 80) (n := 8000) (i := ((sg_g σ2 77 10))) hF62 rfl]
              obtain ⟨c69, w⟩ := w
              refine wk_b tt_111 1 (pc' := 142) (ls' := [(0, .inr (.inr (.ref 77))), (1, .inl (a1)), (2, .inl (a2)), (3, .inl ((sg_g σ 77 16))), (4, .inl ((sg_g σ 77 10))), (5, .inl (v1))]) (st' := [.inl (((sg_g σ66 77 16) - (sx_at σ52 80 8000 ((sg_g σ2 77 10))))), .inl ((sg_g σ2 77 10)), .inr (.inr (.ref 81))]) (σ' := σ66) rfl ?_
              refine wk_callp tt_111 rfl rfl rfl rfl rfl tt_21 rfl (by decide) (pt_i0 z σ66 81 8000 ((sg_g σ2 77 10)) (((sg_g σ66 77 16) - (sx_at σ52 80 8000 ((sg_g σ2 77 10))))) rfl (by decide) (sg_Rg _ _ _)) ?_
              show wx z 2 111 145 [(0, .inr (.inr (.ref 77))), (1, .inl (a1)), (2, .inl (a2)), (3, .inl ((sg_g σ 77 16))), (4, .inl ((sg_g σ 77 10))), (5, .inl (v1))] [] (sx_put σ66 81 8000 ((sg_g σ2 77 10)) (((sg_g σ66 77 16) - (sx_at σ52 80 8000 ((sg_g σ2 77 10)))))) (fun v σ' => ∃ q, v = some (.inl q) ∧ sg_R q ∧ sg_F [78, 79, 80, 81, 82, 85, 86, 87, 11077, 12077, 13077, 14077, 15077, 16077, 17077, 18077, 19077] σ σ' ∧ Q q σ')
              generalize hs71 : (sx_put σ66 81 8000 ((sg_g σ2 77 10)) (((sg_g σ66 77 16) - (sx_at σ52 80 8000 ((sg_g σ2 77 10)))))) = σ70
              have w := w σ70 hs71.symm
              have hF72 : sg_F [81] σ66 σ70 := by rw [← hs71]; exact sg_F_p (sg_F_r _ _) rfl _ _ _
              refine wk_b tt_111 2 (pc' := 148) (ls' := [(0, .inr (.inr (.ref 77))), (1, .inl (a1)), (2, .inl (a2)), (3, .inl ((sg_g σ 77 16))), (4, .inl ((sg_g σ 77 10))), (5, .inl (v1))]) (st' := [.inl (a1), .inl (v1)]) (σ' := σ70) rfl ?_
              obtain ⟨P75, w, w78⟩ := w
              have jn74 : ∀ (σ76 : sg_S), sg_F [79] σ70 σ76 → P75 σ76 → wx z 2 111 159 [(0, .inr (.inr (.ref 77))), (1, .inl (a1)), (2, .inl (a2)), (3, .inl ((sg_g σ 77 16))), (4, .inl ((sg_g σ 77 10))), (5, .inl (v1))] [] σ76 (fun v σ' => ∃ q, v = some (.inl q) ∧ sg_R q ∧ sg_F [78, 79, 80, 81, 82, 85, 86, 87, 11077, 12077, 13077, 14077, 15077, 16077, 17077, 18077, 19077] σ σ' ∧ Q q σ') := by
                intro σ76 hF77 w
                have w := w78 σ76 hF77 w
                obtain ⟨c79, w⟩ := w
                refine wk_b tt_111 6 (pc' := 169) (ls' := [(0, .inr (.inr (.ref 77))), (1, .inl (a1)), (2, .inl (a2)), (3, .inl ((sg_g σ 77 16))), (4, .inl ((sg_g σ 77 10))), (5, .inl (v1))]) (st' := []) (σ' := (sg_w σ76 77 10 (((sg_g σ76 77 10) + 1)))) rfl ?_
                rw [show (sg_g σ76 77 10) = (sg_g σ2 77 10) from by rw [sg_F_ga hF77 rfl, sg_F_ga hF72 rfl, sg_F_g hF67 rfl, sg_F_ga hF62 rfl, sg_F_ga hF54 rfl]]
                generalize hs81 : (sg_w σ76 77 10 (((sg_g σ2 77 10) + 1))) = σ80
                have w := w σ80 hs81.symm
                have hF82 : sg_F [11077] σ76 σ80 := by rw [← hs81]; exact sg_F_w (sg_F_r _ _) rfl _
                obtain ⟨c83, w⟩ := w
                refine wk_b tt_111 2 (pc' := 14) (ls' := [(5, .inl ((v1 + 1))), (0, .inr (.inr (.ref 77))), (1, .inl (a1)), (2, .inl (a2)), (3, .inl ((sg_g σ 77 16))), (4, .inl ((sg_g σ 77 10)))]) (st' := []) (σ' := σ80) rfl ?_
                obtain ⟨m84, hm84, w⟩ := w
                exact wk_ls [(0, .inr (.inr (.ref 77))), (1, .inl (a1)), (2, .inl (a2)), (3, .inl ((sg_g σ 77 16))), (4, .inl ((sg_g σ 77 10))), (5, .inl ((v1 + 1)))] rfl ⟨rfl, rfl, rfl, rfl, rfl, rfl, trivial⟩ (ih8 m84 hm84 ((v1 + 1)) σ80 c83 (sg_F_t (sg_F_t (sg_F_t (sg_F_t (sg_F_t (sg_F_t (sg_F_t (sg_F_r [78, 79, 80, 81, 82, 85, 86, 87, 11077, 16077, 17077] σ) (sg_F_m (L := [78, 79, 80, 81, 82, 85, 86, 87, 11077, 16077, 17077]) hF3 rfl)) (sg_F_m (L := [78, 79, 80, 81, 82, 85, 86, 87, 11077, 16077, 17077]) hF54 rfl)) (sg_F_m (L := [78, 79, 80, 81, 82, 85, 86, 87, 11077, 16077, 17077]) hF62 rfl)) (sg_F_m (L := [78, 79, 80, 81, 82, 85, 86, 87, 11077, 16077, 17077]) hF67 rfl)) (sg_F_m (L := [78, 79, 80, 81, 82, 85, 86, 87, 11077, 16077, 17077]) hF72 rfl)) (sg_F_m (L := [78, 79, 80, 81, 82, 85, 86, 87, 11077, 16077, 17077]) hF77 rfl)) (sg_F_m (L := [78, 79, 80, 81, 82, 85, 86, 87, 11077, 16077, 17077]) hF82 rfl)) w)
              refine wk_if2 tt_111 (tgt := 159) rfl rfl r7 ra1 (fun (h73 : a1 ≤ v1) => ?_) (fun (h73 : v1 < a1) => ?_)
              ·
                have w := w.1 h73
                exact wk_ls [(0, .inr (.inr (.ref 77))), (1, .inl (a1)), (2, .inl (a2)), (3, .inl ((sg_g σ 77 16))), (4, .inl ((sg_g σ 77 10))), (5, .inl (v1))] rfl ⟨rfl, rfl, rfl, rfl, rfl, rfl, trivial⟩ (jn74 σ70 (sg_F_r [79] σ70) w)
              ·
                have w := w.2 h73
                refine wk_b tt_111 3 (pc' := 156) (ls' := [(0, .inr (.inr (.ref 77))), (1, .inl (a1)), (2, .inl (a2)), (3, .inl ((sg_g σ 77 16))), (4, .inl ((sg_g σ 77 10))), (5, .inl (v1))]) (st' := [.inl ((sg_g σ70 77 10)), .inr (.inr (.ref 77))]) (σ' := σ70) rfl ?_
                rw [show (sg_g σ70 77 10) = (sg_g σ2 77 10) from by rw [sg_F_ga hF72 rfl, sg_F_g hF67 rfl, sg_F_ga hF62 rfl, sg_F_ga hF54 rfl]]
                refine wk_call tt_111 rfl rfl rfl rfl rfl tt_107 rfl (by decide) (w_lLayOut z σ70 ((sg_g σ2 77 10)) _ (sg_Rg _ _ _) w) (fun u90 σ86 hq88 => ?_)
                obtain ⟨rfl, hF87, w⟩ := hq88
                have w := w hF87
                exact wk_ls [(0, .inr (.inr (.ref 77))), (1, .inl (a1)), (2, .inl (a2)), (3, .inl ((sg_g σ 77 16))), (4, .inl ((sg_g σ 77 10))), (5, .inl (v1))] rfl ⟨rfl, rfl, rfl, rfl, rfl, rfl, trivial⟩ (jn74 σ86 (sg_F_t (sg_F_r [79] σ70) (sg_F_m (L := [79]) hF87 rfl)) w)
            refine wk_if2 tt_111 (tgt := 82) rfl rfl r7 ra2 (fun (h63 : v1 < a2) => ?_) (fun (h63 : a2 ≤ v1) => ?_)
            ·
              have w := w.1 h63
              refine wk_b tt_111 2 (pc' := 85) (ls' := [(0, .inr (.inr (.ref 77))), (1, .inl (a1)), (2, .inl (a2)), (3, .inl ((sg_g σ 77 16))), (4, .inl ((sg_g σ 77 10))), (5, .inl (v1))]) (st' := [.inl (v1), .inr (.inr (.ref 77))]) (σ' := σ60) rfl ?_
              refine wk_if tt_111 (tgt := 95) rfl rfl r7 (fun (h91 : ¬ v1 = 0) => ?_) (fun (h91 : v1 = 0) => ?_)
              ·
                have w := w.1 h91
                refine wk_b tt_111 3 (pc' := 101) (ls' := [(0, .inr (.inr (.ref 77))), (1, .inl (a1)), (2, .inl (a2)), (3, .inl ((sg_g σ 77 16))), (4, .inl ((sg_g σ 77 10))), (5, .inl (v1))]) (st' := [.inl (v1), .inr (.inr (.ref 84)), .inr (.inr (.ref 77))]) (σ' := σ60) rfl ?_
                have jn93 : ∀ v94 : Int, v94 = (if ¬ v1 = 0 then (sg_g σ 77 12) else (sg_g σ 77 11)) → sg_R v94 → wx z 2 111 115 [(0, .inr (.inr (.ref 77))), (1, .inl (a1)), (2, .inl (a2)), (3, .inl ((sg_g σ 77 16))), (4, .inl ((sg_g σ 77 10))), (5, .inl (v1))] [.inl (v94), .inr (.inr (.ref 84)), .inr (.inr (.ref 77))] σ60 (fun v σ' => ∃ q, v = some (.inl q) ∧ sg_R q ∧ sg_F [78, 79, 80, 81, 82, 85, 86, 87, 11077, 12077, 13077, 14077, 15077, 16077, 17077, 18077, 19077] σ σ' ∧ Q q σ') := by
                  intro v94 e96 r95
                  have w := w v94 e96 r95
                  refine wk_call tt_111 rfl rfl rfl rfl rfl tt_102 rfl (by decide) (w_lCopy84 z σ60 (v94) _ r95 w) (fun u102 σ98 hq100 => ?_)
                  obtain ⟨rfl, hF99, w⟩ := hq100
                  have w := w hF99
                  exact wk_ls [(0, .inr (.inr (.ref 77))), (1, .inl (a1)), (2, .inl (a2)), (3, .inl ((sg_g σ 77 16))), (4, .inl ((sg_g σ 77 10))), (5, .inl (v1))] rfl ⟨rfl, rfl, rfl, rfl, rfl, rfl, trivial⟩ (jn64 σ98 (sg_F_t (sg_F_r [78, 85, 86, 87, 16077, 17077] σ60) (sg_F_m (L := [78, 85, 86, 87, 16077, 17077]) hF99 rfl)) w)
                refine wk_if tt_111 (tgt := 111) rfl rfl r7 (fun (h92 : ¬ v1 = 0) => ?_) (fun (h92 : v1 = 0) => ?_)
                ·
                  clear w
                  refine wk_b tt_111 2 (pc' := 115) (ls' := [(0, .inr (.inr (.ref 77))), (1, .inl (a1)), (2, .inl (a2)), (3, .inl ((sg_g σ 77 16))), (4, .inl ((sg_g σ 77 10))), (5, .inl (v1))]) (st' := [.inl ((sg_g σ60 77 12)), .inr (.inr (.ref 84)), .inr (.inr (.ref 77))]) (σ' := σ60) rfl ?_
                  rw [show (sg_g σ60 77 12) = (sg_g σ 77 12) from by rw [sg_F_ga hF62 rfl, sg_F_ga hF54 rfl, sg_F_g hF3 rfl]]
                  exact wk_ls [(0, .inr (.inr (.ref 77))), (1, .inl (a1)), (2, .inl (a2)), (3, .inl ((sg_g σ 77 16))), (4, .inl ((sg_g σ 77 10))), (5, .inl (v1))] rfl ⟨rfl, rfl, rfl, rfl, rfl, rfl, trivial⟩ (jn93 ((sg_g σ 77 12)) (by simp only [if_pos h92]) (sg_Rg _ _ _))
                ·
                  clear w
                  refine wk_b tt_111 3 (pc' := 115) (ls' := [(0, .inr (.inr (.ref 77))), (1, .inl (a1)), (2, .inl (a2)), (3, .inl ((sg_g σ 77 16))), (4, .inl ((sg_g σ 77 10))), (5, .inl (v1))]) (st' := [.inl ((sg_g σ60 77 11)), .inr (.inr (.ref 84)), .inr (.inr (.ref 77))]) (σ' := σ60) rfl ?_
                  rw [show (sg_g σ60 77 11) = (sg_g σ 77 11) from by rw [sg_F_ga hF62 rfl, sg_F_ga hF54 rfl, sg_F_g hF3 rfl]]
                  exact wk_ls [(0, .inr (.inr (.ref 77))), (1, .inl (a1)), (2, .inl (a2)), (3, .inl ((sg_g σ 77 16))), (4, .inl ((sg_g σ 77 10))), (5, .inl (v1))] rfl ⟨rfl, rfl, rfl, rfl, rfl, rfl, trivial⟩ (jn93 ((sg_g σ 77 11)) (by simp only [if_neg (show ¬ (¬ v1 = 0) by omega)]) (sg_Rg _ _ _))
              ·
                have w := w.2 h91
                refine wk_b tt_111 4 (pc' := 101) (ls' := [(0, .inr (.inr (.ref 77))), (1, .inl (a1)), (2, .inl (a2)), (3, .inl ((sg_g σ 77 16))), (4, .inl ((sg_g σ 77 10))), (5, .inl (v1))]) (st' := [.inl (v1), .inr (.inr (.ref 83)), .inr (.inr (.ref 77))]) (σ' := σ60) rfl ?_
                have jn104 : ∀ v105 : Int, v105 = (if ¬ v1 = 0 then (sg_g σ 77 12) else (sg_g σ 77 11)) → sg_R v105 → wx z 2 111 115 [(0, .inr (.inr (.ref 77))), (1, .inl (a1)), (2, .inl (a2)), (3, .inl ((sg_g σ 77 16))), (4, .inl ((sg_g σ 77 10))), (5, .inl (v1))] [.inl (v105), .inr (.inr (.ref 83)), .inr (.inr (.ref 77))] σ60 (fun v σ' => ∃ q, v = some (.inl q) ∧ sg_R q ∧ sg_F [78, 79, 80, 81, 82, 85, 86, 87, 11077, 12077, 13077, 14077, 15077, 16077, 17077, 18077, 19077] σ σ' ∧ Q q σ') := by
                  intro v105 e107 r106
                  have w := w v105 e107 r106
                  refine wk_call tt_111 rfl rfl rfl rfl rfl tt_102 rfl (by decide) (w_lCopy83 z σ60 (v105) _ r106 w) (fun u113 σ109 hq111 => ?_)
                  obtain ⟨rfl, hF110, w⟩ := hq111
                  have w := w hF110
                  exact wk_ls [(0, .inr (.inr (.ref 77))), (1, .inl (a1)), (2, .inl (a2)), (3, .inl ((sg_g σ 77 16))), (4, .inl ((sg_g σ 77 10))), (5, .inl (v1))] rfl ⟨rfl, rfl, rfl, rfl, rfl, rfl, trivial⟩ (jn64 σ109 (sg_F_t (sg_F_r [78, 85, 86, 87, 16077, 17077] σ60) (sg_F_m (L := [78, 85, 86, 87, 16077, 17077]) hF110 rfl)) w)
                refine wk_if tt_111 (tgt := 111) rfl rfl r7 (fun (h103 : ¬ v1 = 0) => ?_) (fun (h103 : v1 = 0) => ?_)
                ·
                  clear w
                  refine wk_b tt_111 2 (pc' := 115) (ls' := [(0, .inr (.inr (.ref 77))), (1, .inl (a1)), (2, .inl (a2)), (3, .inl ((sg_g σ 77 16))), (4, .inl ((sg_g σ 77 10))), (5, .inl (v1))]) (st' := [.inl ((sg_g σ60 77 12)), .inr (.inr (.ref 83)), .inr (.inr (.ref 77))]) (σ' := σ60) rfl ?_
                  rw [show (sg_g σ60 77 12) = (sg_g σ 77 12) from by rw [sg_F_ga hF62 rfl, sg_F_ga hF54 rfl, sg_F_g hF3 rfl]]
                  exact wk_ls [(0, .inr (.inr (.ref 77))), (1, .inl (a1)), (2, .inl (a2)), (3, .inl ((sg_g σ 77 16))), (4, .inl ((sg_g σ 77 10))), (5, .inl (v1))] rfl ⟨rfl, rfl, rfl, rfl, rfl, rfl, trivial⟩ (jn104 ((sg_g σ 77 12)) (by simp only [if_pos h103]) (sg_Rg _ _ _))
                ·
                  clear w
                  refine wk_b tt_111 3 (pc' := 115) (ls' := [(0, .inr (.inr (.ref 77))), (1, .inl (a1)), (2, .inl (a2)), (3, .inl ((sg_g σ 77 16))), (4, .inl ((sg_g σ 77 10))), (5, .inl (v1))]) (st' := [.inl ((sg_g σ60 77 11)), .inr (.inr (.ref 83)), .inr (.inr (.ref 77))]) (σ' := σ60) rfl ?_
                  rw [show (sg_g σ60 77 11) = (sg_g σ 77 11) from by rw [sg_F_ga hF62 rfl, sg_F_ga hF54 rfl, sg_F_g hF3 rfl]]
                  exact wk_ls [(0, .inr (.inr (.ref 77))), (1, .inl (a1)), (2, .inl (a2)), (3, .inl ((sg_g σ 77 16))), (4, .inl ((sg_g σ 77 10))), (5, .inl (v1))] rfl ⟨rfl, rfl, rfl, rfl, rfl, rfl, trivial⟩ (jn104 ((sg_g σ 77 11)) (by simp only [if_neg (show ¬ (¬ v1 = 0) by omega)]) (sg_Rg _ _ _))
            ·
              have w := w.2 h63
              refine wk_b tt_111 1 (pc' := 76) (ls' := [(0, .inr (.inr (.ref 77))), (1, .inl (a1)), (2, .inl (a2)), (3, .inl ((sg_g σ 77 16))), (4, .inl ((sg_g σ 77 10))), (5, .inl (v1))]) (st' := [.inr (.inr (.ref 77))]) (σ' := σ60) rfl ?_
              refine wk_call tt_111 rfl rfl rfl rfl rfl tt_103 rfl (by decide) (w_lCopyPicks z σ60  _  w) (fun u119 σ115 hq117 => ?_)
              obtain ⟨rfl, hF116, w⟩ := hq117
              have w := w hF116
              refine wk_b tt_111 1 (pc' := 118) (ls' := [(0, .inr (.inr (.ref 77))), (1, .inl (a1)), (2, .inl (a2)), (3, .inl ((sg_g σ 77 16))), (4, .inl ((sg_g σ 77 10))), (5, .inl (v1))]) (st' := []) (σ' := σ115) rfl ?_
              exact wk_ls [(0, .inr (.inr (.ref 77))), (1, .inl (a1)), (2, .inl (a2)), (3, .inl ((sg_g σ 77 16))), (4, .inl ((sg_g σ 77 10))), (5, .inl (v1))] rfl ⟨rfl, rfl, rfl, rfl, rfl, rfl, trivial⟩ (jn64 σ115 (sg_F_t (sg_F_r [78, 85, 86, 87, 16077, 17077] σ60) (sg_F_m (L := [78, 85, 86, 87, 16077, 17077]) hF116 rfl)) w)
          have w := wp
          refine wk_if2 tt_111 (tgt := 65) rfl rfl r7 ra1 (fun (h55 : a1 ≤ v1) => ?_) (fun (h55 : v1 < a1) => ?_)
          ·
            have w := w.1 h55
            refine wk_b tt_111 1 (pc' := 66) (ls' := [(0, .inr (.inr (.ref 77))), (1, .inl (a1)), (2, .inl (a2)), (3, .inl ((sg_g σ 77 16))), (4, .inl ((sg_g σ 77 10))), (5, .inl (v1))]) (st' := [.inl ((-1)), .inl ((sg_g σ2 77 10)), .inr (.inr (.ref 82))]) (σ' := σ52) rfl ?_
            exact wk_ls [(0, .inr (.inr (.ref 77))), (1, .inl (a1)), (2, .inl (a2)), (3, .inl ((sg_g σ 77 16))), (4, .inl ((sg_g σ 77 10))), (5, .inl (v1))] rfl ⟨rfl, rfl, rfl, rfl, rfl, rfl, trivial⟩ (jn56 ((-1)) (by simp only [if_pos h55]) (by decide))
          ·
            have w := w.2 h55
            obtain ⟨c120, w⟩ := w
            refine wk_b tt_111 5 (pc' := 66) (ls' := [(0, .inr (.inr (.ref 77))), (1, .inl (a1)), (2, .inl (a2)), (3, .inl ((sg_g σ 77 16))), (4, .inl ((sg_g σ 77 10))), (5, .inl (v1))]) (st' := [.inl (((sg_g σ52 77 10) + 1)), .inl ((sg_g σ2 77 10)), .inr (.inr (.ref 82))]) (σ' := σ52) rfl ?_
            rw [show (sg_g σ52 77 10) = (sg_g σ2 77 10) from by rw [sg_F_ga hF54 rfl]]
            exact wk_ls [(0, .inr (.inr (.ref 77))), (1, .inl (a1)), (2, .inl (a2)), (3, .inl ((sg_g σ 77 16))), (4, .inl ((sg_g σ 77 10))), (5, .inl (v1))] rfl ⟨rfl, rfl, rfl, rfl, rfl, rfl, trivial⟩ (jn56 (((sg_g σ2 77 10) + 1)) (by simp only [if_neg (show ¬ (a1 ≤ v1) by omega)]) c120)
  exact wk_ls [(0, .inr (.inr (.ref 77))), (1, .inl (a1)), (2, .inl (a2)), (3, .inl ((sg_g σ 77 16))), (4, .inl ((sg_g σ 77 10))), (5, .inl (0))] rfl ⟨rfl, rfl, rfl, rfl, rfl, rfl, trivial⟩ (lp10 μ5 (0) σ (by decide) (sg_F_r _ _) w11)
-- NestedVectors$Lanes.second
def V_lSecond (σ : sg_S) (a1 : Int) (Q : sg_S → Prop) : Prop := ((¬ (sg_g σ 77 15) = 0 → True) ∧ ((sg_g σ 77 15) = 0 → (((sg_g σ 77 12) < 6000 → True) ∧ (6000 ≤ (sg_g σ 77 12) → True)))) ∧ ∀ v3 : Int, v3 = (if ¬ (sg_g σ 77 15) = 0 then (1 : Int) else (if (sg_g σ 77 12) < 6000 then (0 : Int) else (1 : Int))) → sg_R v3 → ∀ σ6, σ6 = (sg_w σ 77 15 (v3)) → ∀ σ9, σ9 = (sx_put σ6 84 6000 ((sg_g σ 77 12)) (a1)) → sg_R ((sg_g σ 77 12) + 1) ∧ ∀ σ13, σ13 = (sg_w σ9 77 12 (((sg_g σ 77 12) + 1))) → Q σ13
set_option maxHeartbeats 4000000 in
set_option maxRecDepth 8000 in
theorem w_lSecond (z : Value) (σ : sg_S) (a1 : Int) (Q : sg_S → Prop) (ra1 : sg_R a1) (w : V_lSecond σ a1 Q) : wx z 1 112 0 [(0, .inr (.inr (.ref 77))), (1, .inl (a1))] [] σ (fun v σ' => v = none ∧ sg_F [84, 13077, 16077] σ σ' ∧ Q σ') := by
  unfold V_lSecond at w
  refine wk_b tt_112 3 (pc' := 5) (ls' := [(0, .inr (.inr (.ref 77))), (1, .inl (a1))]) (st' := [.inl ((sg_g σ 77 15)), .inr (.inr (.ref 77))]) (σ' := σ) rfl ?_
  obtain ⟨wp, w⟩ := w
  have jn2 : ∀ v3 : Int, v3 = (if ¬ (sg_g σ 77 15) = 0 then (1 : Int) else (if (sg_g σ 77 12) < 6000 then (0 : Int) else (1 : Int))) → sg_R v3 → wx z 1 112 23 [(0, .inr (.inr (.ref 77))), (1, .inl (a1))] [.inl (v3), .inr (.inr (.ref 77))] σ (fun v σ' => v = none ∧ sg_F [84, 13077, 16077] σ σ' ∧ Q σ') := by
    intro v3 e5 r4
    have w := w v3 e5 r4
    refine wk_pz (k := 15) tt_112 rfl rfl rfl rfl (by rw [e5]; repeat (first | exact Or.inl rfl | exact Or.inr rfl | split)) ?_
    generalize hs7 : (sg_w σ 77 15 (v3)) = σ6
    have w := w σ6 hs7.symm
    have hF8 : sg_F [16077] σ σ6 := by rw [← hs7]; exact sg_F_w (sg_F_r _ _) rfl _
    refine wk_b tt_112 5 (pc' := 35) (ls' := [(0, .inr (.inr (.ref 77))), (1, .inl (a1))]) (st' := [.inl (a1), .inl ((sg_g σ6 77 12)), .inr (.inr (.ref 84))]) (σ' := σ6) rfl ?_
    rw [show (sg_g σ6 77 12) = (sg_g σ 77 12) from by rw [sg_F_g hF8 rfl]]
    refine wk_callp tt_112 rfl rfl rfl rfl rfl tt_21 rfl (by decide) (pt_i0 z σ6 84 6000 ((sg_g σ 77 12)) (a1) rfl (by decide) (sg_Rg _ _ _)) ?_
    show wx z 1 112 38 [(0, .inr (.inr (.ref 77))), (1, .inl (a1))] [] (sx_put σ6 84 6000 ((sg_g σ 77 12)) (a1)) (fun v σ' => v = none ∧ sg_F [84, 13077, 16077] σ σ' ∧ Q σ')
    generalize hs10 : (sx_put σ6 84 6000 ((sg_g σ 77 12)) (a1)) = σ9
    have w := w σ9 hs10.symm
    have hF11 : sg_F [84] σ6 σ9 := by rw [← hs10]; exact sg_F_p (sg_F_r _ _) rfl _ _ _
    obtain ⟨c12, w⟩ := w
    refine wk_b tt_112 6 (pc' := 48) (ls' := [(0, .inr (.inr (.ref 77))), (1, .inl (a1))]) (st' := []) (σ' := (sg_w σ9 77 12 (((sg_g σ9 77 12) + 1)))) rfl ?_
    rw [show (sg_g σ9 77 12) = (sg_g σ 77 12) from by rw [sg_F_ga hF11 rfl, sg_F_g hF8 rfl]]
    generalize hs14 : (sg_w σ9 77 12 (((sg_g σ 77 12) + 1))) = σ13
    have w := w σ13 hs14.symm
    have hF15 : sg_F [13077] σ9 σ13 := by rw [← hs14]; exact sg_F_w (sg_F_r _ _) rfl _
    exact wk_rV tt_112 rfl rfl ⟨rfl, (sg_F_t (sg_F_t (sg_F_t (sg_F_r [84, 13077, 16077] σ) (sg_F_m (L := [84, 13077, 16077]) hF8 rfl)) (sg_F_m (L := [84, 13077, 16077]) hF11 rfl)) (sg_F_m (L := [84, 13077, 16077]) hF15 rfl)), w⟩
  have w := wp
  refine wk_if tt_112 (tgt := 18) rfl rfl (sg_Rg _ _ _) (fun (h1 : ¬ (sg_g σ 77 15) = 0) => ?_) (fun (h1 : (sg_g σ 77 15) = 0) => ?_)
  ·
    have w := w.1 h1
    refine wk_b tt_112 2 (pc' := 23) (ls' := [(0, .inr (.inr (.ref 77))), (1, .inl (a1))]) (st' := [.inl (1), .inr (.inr (.ref 77))]) (σ' := σ) rfl ?_
    exact wk_ls [(0, .inr (.inr (.ref 77))), (1, .inl (a1))] rfl ⟨rfl, rfl, trivial⟩ (jn2 (1) (by simp only [if_pos h1]) (by decide))
  ·
    have w := w.2 h1
    refine wk_b tt_112 3 (pc' := 15) (ls' := [(0, .inr (.inr (.ref 77))), (1, .inl (a1))]) (st' := [.inl (6000), .inl ((sg_g σ 77 12)), .inr (.inr (.ref 77))]) (σ' := σ) rfl ?_
    refine wk_if2 tt_112 (tgt := 22) rfl rfl (sg_Rg _ _ _) (by decide) (fun (h16 : (sg_g σ 77 12) < 6000) => ?_) (fun (h16 : 6000 ≤ (sg_g σ 77 12)) => ?_)
    ·
      have w := w.1 h16
      refine wk_b tt_112 1 (pc' := 23) (ls' := [(0, .inr (.inr (.ref 77))), (1, .inl (a1))]) (st' := [.inl (0), .inr (.inr (.ref 77))]) (σ' := σ) rfl ?_
      exact wk_ls [(0, .inr (.inr (.ref 77))), (1, .inl (a1))] rfl ⟨rfl, rfl, trivial⟩ (jn2 (0) (by simp only [if_neg (show ¬ (¬ (sg_g σ 77 15) = 0) by omega), if_pos h16]) (by decide))
    ·
      have w := w.2 h16
      refine wk_b tt_112 2 (pc' := 23) (ls' := [(0, .inr (.inr (.ref 77))), (1, .inl (a1))]) (st' := [.inl (1), .inr (.inr (.ref 77))]) (σ' := σ) rfl ?_
      exact wk_ls [(0, .inr (.inr (.ref 77))), (1, .inl (a1))] rfl ⟨rfl, rfl, trivial⟩ (jn2 (1) (by simp only [if_neg (show ¬ (¬ (sg_g σ 77 15) = 0) by omega), if_neg (show ¬ ((sg_g σ 77 12) < 6000) by omega)]) (by decide))
-- NestedVectors$Lanes.size
def v_lSize (σ : sg_S) (a1 : Int) : Int := (sx_at σ 81 8000 (a1))
set_option maxHeartbeats 4000000 in
set_option maxRecDepth 8000 in
theorem w_lSize (z : Value) (σ : sg_S) (a1 : Int) (ra1 : sg_R a1) : wx z 1 113 0 [(0, .inr (.inr (.ref 77))), (1, .inl (a1))] [] σ (fun v σ' => v = some (.inl (v_lSize σ a1)) ∧ σ' = σ) := by
  refine wk_b tt_113 3 (pc' := 5) (ls' := [(0, .inr (.inr (.ref 77))), (1, .inl (a1))]) (st' := [.inl (a1), .inr (.inr (.ref 81))]) (σ' := σ) rfl ?_
  refine wk_callp tt_113 rfl rfl rfl rfl rfl tt_5 rfl (by decide) (at_i0 z σ 81 8000 (a1) rfl (by decide) ra1) ?_
  show wx z 1 113 8 [(0, .inr (.inr (.ref 77))), (1, .inl (a1))] [.inl ((sx_at σ 81 8000 (a1)))] σ (fun v σ' => v = some (.inl (v_lSize σ a1)) ∧ σ' = σ)
  exact wk_rI tt_113 rfl rfl ⟨by rw [v_lSize], rfl⟩
theorem vF_lSize {L : List Nat} {σ σ' : sg_S} {a1 : Int} (hF : sg_F L σ σ') (h0 : sg_ca L 81 = true) : v_lSize σ' a1 = v_lSize σ a1 := by
  unfold v_lSize
  simp only [sg_F_ga (k := _) hF h0, sg_F_gal (k := _) hF h0, sx_F hF h0, sx_Fl hF h0]
theorem vr_lSize (σ : sg_S) (a1 : Int) (ra1 : sg_R a1) : sg_R (v_lSize σ a1) := by
  unfold v_lSize
  first | exact sx_R .. | exact sx_Rl .. | exact w.1 | exact w.2.1 | exact w.2.2.1 | exact sg_Rg _ _ _ | exact sg_Rgl _ _ _ | exact sg_Rr _ | exact sg_RLr _ | assumption | omega | (constructor <;> omega)
-- NestedVectors.badSize
def v_xBadSize  (a0 : Int) : Int := (if a0 < 0 then (1 : Int) else (if a0 ≤ 200 then (0 : Int) else (1 : Int)))
theorem vz_xBadSize  {a0 : Int} : v_xBadSize a0 = 0 ∨ v_xBadSize a0 = 1 := by
  unfold v_xBadSize
  by_cases h : a0 < 0
  · rw [if_pos h]
    exact Or.inr rfl
  · rw [if_neg h]
    by_cases h : a0 ≤ 200
    · rw [if_pos h]
      exact Or.inl rfl
    · rw [if_neg h]
      exact Or.inr rfl
set_option maxHeartbeats 4000000 in
set_option maxRecDepth 8000 in
theorem w_xBadSize (z : Value) (σ : sg_S) (a0 : Int) (ra0 : sg_R a0) : wx z 0 7 0 [(0, .inl (a0))] [] σ (fun v σ' => v = some (.inl (v_xBadSize a0)) ∧ σ' = σ) := by
  refine wk_b tt_7 1 (pc' := 1) (ls' := [(0, .inl (a0))]) (st' := [.inl (a0)]) (σ' := σ) rfl ?_
  refine wk_if tt_7 (tgt := 11) rfl rfl ra0 (fun (h1 : a0 < 0) => ?_) (fun (h1 : 0 ≤ a0) => ?_)
  ·
    refine wk_b tt_7 2 (pc' := 16) (ls' := [(0, .inl (a0))]) (st' := [.inl (1)]) (σ' := σ) rfl ?_
    exact wk_rZ tt_7 rfl rfl (by decide) ⟨by rw [v_xBadSize, if_pos h1], rfl⟩
  ·
    refine wk_b tt_7 2 (pc' := 8) (ls' := [(0, .inl (a0))]) (st' := [.inl (200), .inl (a0)]) (σ' := σ) rfl ?_
    refine wk_if2 tt_7 (tgt := 15) rfl rfl ra0 (by decide) (fun (h2 : a0 ≤ 200) => ?_) (fun (h2 : 200 < a0) => ?_)
    ·
      refine wk_b tt_7 1 (pc' := 16) (ls' := [(0, .inl (a0))]) (st' := [.inl (0)]) (σ' := σ) rfl ?_
      exact wk_rZ tt_7 rfl rfl (by decide) ⟨by rw [v_xBadSize, if_neg (show ¬ (a0 < 0) by omega), if_pos h2], rfl⟩
    ·
      refine wk_b tt_7 2 (pc' := 16) (ls' := [(0, .inl (a0))]) (st' := [.inl (1)]) (σ' := σ) rfl ?_
      exact wk_rZ tt_7 rfl rfl (by decide) ⟨by rw [v_xBadSize, if_neg (show ¬ (a0 < 0) by omega), if_neg (show ¬ (a0 ≤ 200) by omega)], rfl⟩
-- NestedVectors$Machine.push
def V_mPush (σ : sg_S) (a1 : Int) (Q : sg_S → Prop) : Prop := ∀ σ1, σ1 = (sx_put σ 64 400 ((sg_g σ 61 7)) (a1)) → sg_R ((sg_g σ 61 7) + 1) ∧ ∀ σ5, σ5 = (sg_w σ1 61 7 (((sg_g σ 61 7) + 1))) → Q σ5
set_option maxHeartbeats 4000000 in
set_option maxRecDepth 8000 in
theorem w_mPush (z : Value) (σ : sg_S) (a1 : Int) (Q : sg_S → Prop) (ra1 : sg_R a1) (w : V_mPush σ a1 Q) : wx z 1 125 0 [(0, .inr (.inr (.ref 61))), (1, .inl (a1))] [] σ (fun v σ' => v = none ∧ sg_F [64, 8061] σ σ' ∧ Q σ') := by
  unfold V_mPush at w
  refine wk_b tt_125 5 (pc' := 9) (ls' := [(0, .inr (.inr (.ref 61))), (1, .inl (a1))]) (st' := [.inl (a1), .inl ((sg_g σ 61 7)), .inr (.inr (.ref 64))]) (σ' := σ) rfl ?_
  refine wk_callp tt_125 rfl rfl rfl rfl rfl tt_21 rfl (by decide) (pt_i0 z σ 64 400 ((sg_g σ 61 7)) (a1) rfl (by decide) (sg_Rg _ _ _)) ?_
  show wx z 1 125 12 [(0, .inr (.inr (.ref 61))), (1, .inl (a1))] [] (sx_put σ 64 400 ((sg_g σ 61 7)) (a1)) (fun v σ' => v = none ∧ sg_F [64, 8061] σ σ' ∧ Q σ')
  generalize hs2 : (sx_put σ 64 400 ((sg_g σ 61 7)) (a1)) = σ1
  have w := w σ1 hs2.symm
  have hF3 : sg_F [64] σ σ1 := by rw [← hs2]; exact sg_F_p (sg_F_r _ _) rfl _ _ _
  obtain ⟨c4, w⟩ := w
  refine wk_b tt_125 6 (pc' := 22) (ls' := [(0, .inr (.inr (.ref 61))), (1, .inl (a1))]) (st' := []) (σ' := (sg_w σ1 61 7 (((sg_g σ1 61 7) + 1)))) rfl ?_
  rw [show (sg_g σ1 61 7) = (sg_g σ 61 7) from by rw [sg_F_ga hF3 rfl]]
  generalize hs6 : (sg_w σ1 61 7 (((sg_g σ 61 7) + 1))) = σ5
  have w := w σ5 hs6.symm
  have hF7 : sg_F [8061] σ1 σ5 := by rw [← hs6]; exact sg_F_w (sg_F_r _ _) rfl _
  exact wk_rV tt_125 rfl rfl ⟨rfl, (sg_F_t (sg_F_t (sg_F_r [64, 8061] σ) (sg_F_m (L := [64, 8061]) hF3 rfl)) (sg_F_m (L := [64, 8061]) hF7 rfl)), w⟩
-- NestedVectors$FlatRun.give
def V_fGive (σ : sg_S) (a1 : Int) (Q : sg_S → Prop) : Prop := V_lSeal σ ((sg_g σ 61 9)) (a1) (fun q1 σ2 => sg_R q1 → sg_F [78, 79, 80, 81, 82, 85, 86, 87, 11077, 12077, 13077, 14077, 15077, 16077, 17077, 18077, 19077] σ σ2 → V_mPush σ2 (q1) (fun σ8 => sg_F [64, 8061] σ2 σ8 → ∀ σ13, σ13 = (sg_w σ8 61 10 ((sg_g σ2 77 18))) → Q σ13))
set_option maxHeartbeats 4000000 in
set_option maxRecDepth 8000 in
theorem w_fGive (z : Value) (σ : sg_S) (a1 : Int) (Q : sg_S → Prop) (ra1 : sg_R a1) (w : V_fGive σ a1 Q) : wx z 3 65 0 [(0, .inr (.inr (.ref 61))), (1, .inl (a1))] [] σ (fun v σ' => v = none ∧ sg_F [64, 78, 79, 80, 81, 82, 85, 86, 87, 8061, 11061, 11077, 12077, 13077, 14077, 15077, 16077, 17077, 18077, 19077] σ σ' ∧ Q σ') := by
  unfold V_fGive at w
  refine wk_b tt_65 6 (pc' := 10) (ls' := [(0, .inr (.inr (.ref 61))), (1, .inl (a1))]) (st' := [.inl (a1), .inl ((sg_g σ 61 9)), .inr (.inr (.ref 77)), .inr (.inr (.ref 61))]) (σ' := σ) rfl ?_
  refine wk_call tt_65 rfl rfl rfl rfl rfl tt_111 rfl (by decide) (w_lSeal z σ ((sg_g σ 61 9)) (a1) _ (sg_Rg _ _ _) ra1 w) (fun u6 σ2 hq4 => ?_)
  obtain ⟨q1, rfl, r5, hF3, w⟩ := hq4
  have w := w r5 hF3
  refine wk_call tt_65 rfl rfl rfl rfl rfl tt_125 rfl (by decide) (w_mPush z σ2 (q1) _ r5 w) (fun u12 σ8 hq10 => ?_)
  obtain ⟨rfl, hF9, w⟩ := hq10
  have w := w hF9
  refine wk_b tt_65 5 (pc' := 27) (ls' := [(0, .inr (.inr (.ref 61))), (1, .inl (a1))]) (st' := []) (σ' := (sg_w σ8 61 10 ((sg_g σ8 77 18)))) rfl ?_
  rw [show (sg_g σ8 77 18) = (sg_g σ2 77 18) from by rw [sg_F_ga hF9 rfl]]
  generalize hs14 : (sg_w σ8 61 10 ((sg_g σ2 77 18))) = σ13
  have w := w σ13 hs14.symm
  have hF15 : sg_F [11061] σ8 σ13 := by rw [← hs14]; exact sg_F_w (sg_F_r _ _) rfl _
  exact wk_rV tt_65 rfl rfl ⟨rfl, (sg_F_t (sg_F_t (sg_F_t (sg_F_r [64, 78, 79, 80, 81, 82, 85, 86, 87, 8061, 11061, 11077, 12077, 13077, 14077, 15077, 16077, 17077, 18077, 19077] σ) (sg_F_m (L := [64, 78, 79, 80, 81, 82, 85, 86, 87, 8061, 11061, 11077, 12077, 13077, 14077, 15077, 16077, 17077, 18077, 19077]) hF3 rfl)) (sg_F_m (L := [64, 78, 79, 80, 81, 82, 85, 86, 87, 8061, 11061, 11077, 12077, 13077, 14077, 15077, 16077, 17077, 18077, 19077]) hF9 rfl)) (sg_F_m (L := [64, 78, 79, 80, 81, 82, 85, 86, 87, 8061, 11061, 11077, 12077, 13077, 14077, 15077, 16077, 17077, 18077, 19077]) hF15 rfl)), w⟩
-- NestedVectors$FlatRun.append
def V_fAppend (σ : sg_S) (a1 : Int) (a2 : Int) (Q : sg_S → Prop) : Prop := (∃ (I4 : Nat → Int → sg_S → Prop) (X6 : sg_S → Prop), (∃ n, I4 n (0) σ) ∧ (∀ (n14 : Nat) (v1 : Int) (σ2 : sg_S), sg_R v1 → sg_F [83, 85, 86, 87, 12077, 14077, 15077, 16077] σ σ2 → I4 n14 v1 σ2 → (((sg_g σ 61 23) ≤ v1 → X6 σ2) ∧ (v1 < (sg_g σ 61 23) → p_lCell σ (a1) (v1) ∧ p_lCell σ (a2) (v1) ∧ sg_R ((v_lCell σ (a1) (v1)) + (v_lCell σ (a2) (v1))) ∧ (∃ P30 : sg_S → Prop, (((v_xBadSize (((v_lCell σ (a1) (v1)) + (v_lCell σ (a2) (v1))))) = 0 → V_lFirst σ2 (((v_lCell σ (a1) (v1)) + (v_lCell σ (a2) (v1)))) (fun σ37 => sg_F [83, 12077, 16077] σ2 σ37 → p_lItems σ (a1) ∧ p_lStart σ (a1) (v1) ∧ p_lEnd σ (a1) (v1) ∧ V_lPick σ37 ((v_lItems σ (a1))) ((v_lStart σ (a1) (v1))) ((v_lEnd σ (a1) (v1))) (fun σ49 => sg_F [85, 86, 87, 14077, 16077] σ37 σ49 → p_lItems σ (a2) ∧ p_lStart σ (a2) (v1) ∧ p_lEnd σ (a2) (v1) ∧ V_lPick σ49 ((v_lItems σ (a2))) ((v_lStart σ (a2) (v1))) ((v_lEnd σ (a2) (v1))) (fun σ61 => sg_F [85, 86, 87, 14077, 16077] σ49 σ61 → P30 σ61)))) ∧ (¬ (v_xBadSize (((v_lCell σ (a1) (v1)) + (v_lCell σ (a2) (v1))))) = 0 → V_lMiss σ2 (5) (fun σ67 => sg_F [15077] σ2 σ67 → V_lFirst σ67 (0) (fun σ73 => sg_F [83, 12077, 16077] σ67 σ73 → P30 σ73)))) ∧ (∀ (σ31 : sg_S), sg_F [83, 85, 86, 87, 12077, 14077, 15077, 16077] σ2 σ31 → P30 σ31 → sg_R (v1 + 1) ∧ (∃ m, m < n14 ∧ I4 m ((v1 + 1)) σ31)))))) ∧ (∀ (σ2 : sg_S), sg_F [83, 85, 86, 87, 12077, 14077, 15077, 16077] σ σ2 → X6 σ2 → V_fGive σ2 (1) (fun σ17 => sg_F [64, 78, 79, 80, 81, 82, 85, 86, 87, 8061, 11061, 11077, 12077, 13077, 14077, 15077, 16077, 17077, 18077, 19077] σ2 σ17 → Q σ17)))
set_option maxHeartbeats 4000000 in
set_option maxRecDepth 8000 in
theorem w_fAppend (z : Value) (σ : sg_S) (a1 : Int) (a2 : Int) (Q : sg_S → Prop) (ra1 : sg_R a1) (ra2 : sg_R a2) (w : V_fAppend σ a1 a2 Q) : wx z 4 50 0 [(0, .inr (.inr (.ref 61))), (1, .inl (a1)), (2, .inl (a2))] [] σ (fun v σ' => v = none ∧ sg_F [64, 78, 79, 80, 81, 82, 83, 85, 86, 87, 8061, 11061, 11077, 12077, 13077, 14077, 15077, 16077, 17077, 18077, 19077] σ σ' ∧ Q σ') := by
  unfold V_fAppend at w
  refine wk_b tt_50 2 (pc' := 2) (ls' := [(3, .inl (0)), (0, .inr (.inr (.ref 61))), (1, .inl (a1)), (2, .inl (a2))]) (st' := []) (σ' := σ) rfl ?_
  obtain ⟨I4, X6, ⟨μ5, w11⟩, w12, w13⟩ := w
  have ex15 : ∀ (σ2 : sg_S), sg_F [83, 85, 86, 87, 12077, 14077, 15077, 16077] σ σ2 → X6 σ2 → wx z 4 50 139 [(0, .inr (.inr (.ref 61)))] [] σ2 (fun v σ' => v = none ∧ sg_F [64, 78, 79, 80, 81, 82, 83, 85, 86, 87, 8061, 11061, 11077, 12077, 13077, 14077, 15077, 16077, 17077, 18077, 19077] σ σ' ∧ Q σ') := by
    intro σ2 hF3 w
    have w := w13 σ2 hF3 w
    refine wk_b tt_50 2 (pc' := 141) (ls' := [(0, .inr (.inr (.ref 61)))]) (st' := [.inl (1), .inr (.inr (.ref 61))]) (σ' := σ2) rfl ?_
    refine wk_call tt_50 rfl rfl rfl rfl rfl tt_65 rfl (by decide) (w_fGive z σ2 (1) _ (by decide) w) (fun u21 σ17 hq19 => ?_)
    obtain ⟨rfl, hF18, w⟩ := hq19
    have w := w hF18
    exact wk_rV tt_50 rfl rfl ⟨rfl, (sg_F_t (sg_F_t (sg_F_r [64, 78, 79, 80, 81, 82, 83, 85, 86, 87, 8061, 11061, 11077, 12077, 13077, 14077, 15077, 16077, 17077, 18077, 19077] σ) (sg_F_m (L := [64, 78, 79, 80, 81, 82, 83, 85, 86, 87, 8061, 11061, 11077, 12077, 13077, 14077, 15077, 16077, 17077, 18077, 19077]) hF3 rfl)) (sg_F_m (L := [64, 78, 79, 80, 81, 82, 83, 85, 86, 87, 8061, 11061, 11077, 12077, 13077, 14077, 15077, 16077, 17077, 18077, 19077]) hF18 rfl)), w⟩
  have lp10 : ∀ (n14 : Nat) (v1 : Int) (σ2 : sg_S), sg_R v1 → sg_F [83, 85, 86, 87, 12077, 14077, 15077, 16077] σ σ2 → I4 n14 v1 σ2 → wx z 4 50 2 [(0, .inr (.inr (.ref 61))), (1, .inl (a1)), (2, .inl (a2)), (3, .inl (v1))] [] σ2 (fun v σ' => v = none ∧ sg_F [64, 78, 79, 80, 81, 82, 83, 85, 86, 87, 8061, 11061, 11077, 12077, 13077, 14077, 15077, 16077, 17077, 18077, 19077] σ σ' ∧ Q σ') := by
    intro n14
    induction n14 using Nat.strongRecOn with
    | _ n14 ih8 =>
      intro v1 σ2 r7 hF3 w
      have w := w12 n14 v1 σ2 r7 hF3 w
      refine wk_b tt_50 3 (pc' := 7) (ls' := [(0, .inr (.inr (.ref 61))), (1, .inl (a1)), (2, .inl (a2)), (3, .inl (v1))]) (st' := [.inl ((sg_g σ2 61 23)), .inl (v1)]) (σ' := σ2) rfl ?_
      rw [show (sg_g σ2 61 23) = (sg_g σ 61 23) from by rw [sg_F_ga hF3 rfl]]
      refine wk_if2 tt_50 (tgt := 139) rfl rfl r7 (sg_Rg _ _ _) (fun (h22 : (sg_g σ 61 23) ≤ v1) => ?_) (fun (h22 : v1 < (sg_g σ 61 23)) => ?_)
      ·
        have w := w.1 h22
        exact wk_ls [(0, .inr (.inr (.ref 61)))] rfl ⟨rfl, trivial⟩ (ex15  σ2  (sg_F_t (sg_F_r [83, 85, 86, 87, 12077, 14077, 15077, 16077] σ) (sg_F_m (L := [83, 85, 86, 87, 12077, 14077, 15077, 16077]) hF3 rfl)) w)
      ·
        have w := w.2 h22
        refine wk_b tt_50 4 (pc' := 16) (ls' := [(0, .inr (.inr (.ref 61))), (1, .inl (a1)), (2, .inl (a2)), (3, .inl (v1))]) (st' := [.inl (v1), .inl (a1), .inr (.inr (.ref 77))]) (σ' := σ2) rfl ?_
        obtain ⟨c23, w⟩ := w
        have c23 : p_lCell σ2 (a1) (v1) := by
          rw [pF_lCell hF3 rfl rfl]; exact c23
        refine wk_callp tt_50 rfl rfl rfl rfl rfl tt_100 rfl (by decide) (w_lCell z σ2 (a1) (v1) ra1 r7 c23) ?_
        rw [vF_lCell hF3 rfl rfl]
        have r24 := vr_lCell σ  (a1) (v1) ra1 r7 (by have q := c23; rw [pF_lCell hF3 rfl rfl] at q; exact q)
        refine wk_b tt_50 4 (pc' := 25) (ls' := [(0, .inr (.inr (.ref 61))), (1, .inl (a1)), (2, .inl (a2)), (3, .inl (v1))]) (st' := [.inl (v1), .inl (a2), .inr (.inr (.ref 77)), .inl ((v_lCell σ (a1) (v1)))]) (σ' := σ2) rfl ?_
        obtain ⟨c25, w⟩ := w
        have c25 : p_lCell σ2 (a2) (v1) := by
          rw [pF_lCell hF3 rfl rfl]; exact c25
        refine wk_callp tt_50 rfl rfl rfl rfl rfl tt_100 rfl (by decide) (w_lCell z σ2 (a2) (v1) ra2 r7 c25) ?_
        rw [vF_lCell hF3 rfl rfl]
        have r26 := vr_lCell σ  (a2) (v1) ra2 r7 (by have q := c25; rw [pF_lCell hF3 rfl rfl] at q; exact q)
        obtain ⟨c27, w⟩ := w
        refine wk_b tt_50 3 (pc' := 33) (ls' := [(4, .inl (((v_lCell σ (a1) (v1)) + (v_lCell σ (a2) (v1))))), (0, .inr (.inr (.ref 61))), (1, .inl (a1)), (2, .inl (a2)), (3, .inl (v1))]) (st' := [.inl (((v_lCell σ (a1) (v1)) + (v_lCell σ (a2) (v1))))]) (σ' := σ2) rfl ?_
        refine wk_callp tt_50 rfl rfl rfl rfl rfl tt_7 rfl (by decide) (w_xBadSize z σ2 (((v_lCell σ (a1) (v1)) + (v_lCell σ (a2) (v1)))) c27 ) ?_
        obtain ⟨P30, w, w33⟩ := w
        have jn29 : ∀ (σ31 : sg_S), sg_F [83, 85, 86, 87, 12077, 14077, 15077, 16077] σ2 σ31 → P30 σ31 → wx z 4 50 133 [(0, .inr (.inr (.ref 61))), (1, .inl (a1)), (2, .inl (a2)), (3, .inl (v1))] [] σ31 (fun v σ' => v = none ∧ sg_F [64, 78, 79, 80, 81, 82, 83, 85, 86, 87, 8061, 11061, 11077, 12077, 13077, 14077, 15077, 16077, 17077, 18077, 19077] σ σ' ∧ Q σ') := by
          intro σ31 hF32 w
          have w := w33 σ31 hF32 w
          obtain ⟨c34, w⟩ := w
          refine wk_b tt_50 2 (pc' := 2) (ls' := [(3, .inl ((v1 + 1))), (0, .inr (.inr (.ref 61))), (1, .inl (a1)), (2, .inl (a2))]) (st' := []) (σ' := σ31) rfl ?_
          obtain ⟨m35, hm35, w⟩ := w
          exact wk_ls [(0, .inr (.inr (.ref 61))), (1, .inl (a1)), (2, .inl (a2)), (3, .inl ((v1 + 1)))] rfl ⟨rfl, rfl, rfl, rfl, trivial⟩ (ih8 m35 hm35 ((v1 + 1)) σ31 c34 (sg_F_t (sg_F_t (sg_F_r [83, 85, 86, 87, 12077, 14077, 15077, 16077] σ) (sg_F_m (L := [83, 85, 86, 87, 12077, 14077, 15077, 16077]) hF3 rfl)) (sg_F_m (L := [83, 85, 86, 87, 12077, 14077, 15077, 16077]) hF32 rfl)) w)
        refine wk_if tt_50 (tgt := 58) rfl rfl (sg_Rz (vz_xBadSize ..)) (fun (h28 : (v_xBadSize (((v_lCell σ (a1) (v1)) + (v_lCell σ (a2) (v1))))) = 0) => ?_) (fun (h28 : ¬ (v_xBadSize (((v_lCell σ (a1) (v1)) + (v_lCell σ (a2) (v1))))) = 0) => ?_)
        ·
          have w := w.1 h28
          refine wk_b tt_50 3 (pc' := 64) (ls' := [(4, .inl (((v_lCell σ (a1) (v1)) + (v_lCell σ (a2) (v1))))), (0, .inr (.inr (.ref 61))), (1, .inl (a1)), (2, .inl (a2)), (3, .inl (v1))]) (st' := [.inl (((v_lCell σ (a1) (v1)) + (v_lCell σ (a2) (v1)))), .inr (.inr (.ref 77))]) (σ' := σ2) rfl ?_
          refine wk_call tt_50 rfl rfl rfl rfl rfl tt_105 rfl (by decide) (w_lFirst z σ2 (((v_lCell σ (a1) (v1)) + (v_lCell σ (a2) (v1)))) _ c27 w) (fun u41 σ37 hq39 => ?_)
          obtain ⟨rfl, hF38, w⟩ := hq39
          have w := w hF38
          refine wk_b tt_50 5 (pc' := 76) (ls' := [(4, .inl (((v_lCell σ (a1) (v1)) + (v_lCell σ (a2) (v1))))), (0, .inr (.inr (.ref 61))), (1, .inl (a1)), (2, .inl (a2)), (3, .inl (v1))]) (st' := [.inl (a1), .inr (.inr (.ref 77)), .inr (.inr (.ref 77))]) (σ' := σ37) rfl ?_
          obtain ⟨c42, w⟩ := w
          have c42 : p_lItems σ37 (a1) := by
            rw [pF_lItems hF38 rfl, pF_lItems hF3 rfl]; exact c42
          refine wk_callp tt_50 rfl rfl rfl rfl rfl tt_106 rfl (by decide) (w_lItems z σ37 (a1) ra1 c42) ?_
          rw [vF_lItems hF38 rfl, vF_lItems hF3 rfl]
          have r43 := vr_lItems σ  (a1) ra1 (by have q := c42; rw [pF_lItems hF38 rfl, pF_lItems hF3 rfl] at q; exact q)
          refine wk_b tt_50 4 (pc' := 85) (ls' := [(4, .inl (((v_lCell σ (a1) (v1)) + (v_lCell σ (a2) (v1))))), (0, .inr (.inr (.ref 61))), (1, .inl (a1)), (2, .inl (a2)), (3, .inl (v1))]) (st' := [.inl (v1), .inl (a1), .inr (.inr (.ref 77)), .inl ((v_lItems σ (a1))), .inr (.inr (.ref 77))]) (σ' := σ37) rfl ?_
          obtain ⟨c44, w⟩ := w
          have c44 : p_lStart σ37 (a1) (v1) := by
            rw [pF_lStart hF38 rfl rfl, pF_lStart hF3 rfl rfl]; exact c44
          refine wk_callp tt_50 rfl rfl rfl rfl rfl tt_114 rfl (by decide) (w_lStart z σ37 (a1) (v1) ra1 r7 c44) ?_
          rw [vF_lStart hF38 rfl rfl, vF_lStart hF3 rfl rfl]
          have r45 := vr_lStart σ  (a1) (v1) ra1 r7 (by have q := c44; rw [pF_lStart hF38 rfl rfl, pF_lStart hF3 rfl rfl] at q; exact q)
          refine wk_b tt_50 4 (pc' := 94) (ls' := [(4, .inl (((v_lCell σ (a1) (v1)) + (v_lCell σ (a2) (v1))))), (0, .inr (.inr (.ref 61))), (1, .inl (a1)), (2, .inl (a2)), (3, .inl (v1))]) (st' := [.inl (v1), .inl (a1), .inr (.inr (.ref 77)), .inl ((v_lStart σ (a1) (v1))), .inl ((v_lItems σ (a1))), .inr (.inr (.ref 77))]) (σ' := σ37) rfl ?_
          obtain ⟨c46, w⟩ := w
          have c46 : p_lEnd σ37 (a1) (v1) := by
            rw [pF_lEnd hF38 rfl rfl rfl, pF_lEnd hF3 rfl rfl rfl]; exact c46
          refine wk_callp tt_50 rfl rfl rfl rfl rfl tt_104 rfl (by decide) (w_lEnd z σ37 (a1) (v1) ra1 r7 c46) ?_
          rw [vF_lEnd hF38 rfl rfl rfl, vF_lEnd hF3 rfl rfl rfl]
          have r47 := vr_lEnd σ  (a1) (v1) ra1 r7 (by have q := c46; rw [pF_lEnd hF38 rfl rfl rfl, pF_lEnd hF3 rfl rfl rfl] at q; exact q)
          refine wk_call tt_50 rfl rfl rfl rfl rfl tt_109 rfl (by decide) (w_lPick z σ37 ((v_lItems σ (a1))) ((v_lStart σ (a1) (v1))) ((v_lEnd σ (a1) (v1))) _ r43 r45 r47 w) (fun u53 σ49 hq51 => ?_)
          obtain ⟨rfl, hF50, w⟩ := hq51
          have w := w hF50
          refine wk_b tt_50 5 (pc' := 109) (ls' := [(4, .inl (((v_lCell σ (a1) (v1)) + (v_lCell σ (a2) (v1))))), (0, .inr (.inr (.ref 61))), (1, .inl (a1)), (2, .inl (a2)), (3, .inl (v1))]) (st' := [.inl (a2), .inr (.inr (.ref 77)), .inr (.inr (.ref 77))]) (σ' := σ49) rfl ?_
          obtain ⟨c54, w⟩ := w
          have c54 : p_lItems σ49 (a2) := by
            rw [pF_lItems hF50 rfl, pF_lItems hF38 rfl, pF_lItems hF3 rfl]; exact c54
          refine wk_callp tt_50 rfl rfl rfl rfl rfl tt_106 rfl (by decide) (w_lItems z σ49 (a2) ra2 c54) ?_
          rw [vF_lItems hF50 rfl, vF_lItems hF38 rfl, vF_lItems hF3 rfl]
          have r55 := vr_lItems σ  (a2) ra2 (by have q := c54; rw [pF_lItems hF50 rfl, pF_lItems hF38 rfl, pF_lItems hF3 rfl] at q; exact q)
          refine wk_b tt_50 4 (pc' := 118) (ls' := [(4, .inl (((v_lCell σ (a1) (v1)) + (v_lCell σ (a2) (v1))))), (0, .inr (.inr (.ref 61))), (1, .inl (a1)), (2, .inl (a2)), (3, .inl (v1))]) (st' := [.inl (v1), .inl (a2), .inr (.inr (.ref 77)), .inl ((v_lItems σ (a2))), .inr (.inr (.ref 77))]) (σ' := σ49) rfl ?_
          obtain ⟨c56, w⟩ := w
          have c56 : p_lStart σ49 (a2) (v1) := by
            rw [pF_lStart hF50 rfl rfl, pF_lStart hF38 rfl rfl, pF_lStart hF3 rfl rfl]; exact c56
          refine wk_callp tt_50 rfl rfl rfl rfl rfl tt_114 rfl (by decide) (w_lStart z σ49 (a2) (v1) ra2 r7 c56) ?_
          rw [vF_lStart hF50 rfl rfl, vF_lStart hF38 rfl rfl, vF_lStart hF3 rfl rfl]
          have r57 := vr_lStart σ  (a2) (v1) ra2 r7 (by have q := c56; rw [pF_lStart hF50 rfl rfl, pF_lStart hF38 rfl rfl, pF_lStart hF3 rfl rfl] at q; exact q)
          refine wk_b tt_50 4 (pc' := 127) (ls' := [(4, .inl (((v_lCell σ (a1) (v1)) + (v_lCell σ (a2) (v1))))), (0, .inr (.inr (.ref 61))), (1, .inl (a1)), (2, .inl (a2)), (3, .inl (v1))]) (st' := [.inl (v1), .inl (a2), .inr (.inr (.ref 77)), .inl ((v_lStart σ (a2) (v1))), .inl ((v_lItems σ (a2))), .inr (.inr (.ref 77))]) (σ' := σ49) rfl ?_
          obtain ⟨c58, w⟩ := w
          have c58 : p_lEnd σ49 (a2) (v1) := by
            rw [pF_lEnd hF50 rfl rfl rfl, pF_lEnd hF38 rfl rfl rfl, pF_lEnd hF3 rfl rfl rfl]; exact c58
          refine wk_callp tt_50 rfl rfl rfl rfl rfl tt_104 rfl (by decide) (w_lEnd z σ49 (a2) (v1) ra2 r7 c58) ?_
          rw [vF_lEnd hF50 rfl rfl rfl, vF_lEnd hF38 rfl rfl rfl, vF_lEnd hF3 rfl rfl rfl]
          have r59 := vr_lEnd σ  (a2) (v1) ra2 r7 (by have q := c58; rw [pF_lEnd hF50 rfl rfl rfl, pF_lEnd hF38 rfl rfl rfl, pF_lEnd hF3 rfl rfl rfl] at q; exact q)
          refine wk_call tt_50 rfl rfl rfl rfl rfl tt_109 rfl (by decide) (w_lPick z σ49 ((v_lItems σ (a2))) ((v_lStart σ (a2) (v1))) ((v_lEnd σ (a2) (v1))) _ r55 r57 r59 w) (fun u65 σ61 hq63 => ?_)
          obtain ⟨rfl, hF62, w⟩ := hq63
          have w := w hF62
          exact wk_ls [(0, .inr (.inr (.ref 61))), (1, .inl (a1)), (2, .inl (a2)), (3, .inl (v1))] rfl ⟨rfl, rfl, rfl, rfl, trivial⟩ (jn29 σ61 (sg_F_t (sg_F_t (sg_F_t (sg_F_r [83, 85, 86, 87, 12077, 14077, 15077, 16077] σ2) (sg_F_m (L := [83, 85, 86, 87, 12077, 14077, 15077, 16077]) hF38 rfl)) (sg_F_m (L := [83, 85, 86, 87, 12077, 14077, 15077, 16077]) hF50 rfl)) (sg_F_m (L := [83, 85, 86, 87, 12077, 14077, 15077, 16077]) hF62 rfl)) w)
        ·
          have w := w.2 h28
          refine wk_b tt_50 3 (pc' := 44) (ls' := [(4, .inl (((v_lCell σ (a1) (v1)) + (v_lCell σ (a2) (v1))))), (0, .inr (.inr (.ref 61))), (1, .inl (a1)), (2, .inl (a2)), (3, .inl (v1))]) (st' := [.inl (5), .inr (.inr (.ref 77))]) (σ' := σ2) rfl ?_
          refine wk_call tt_50 rfl rfl rfl rfl rfl tt_108 rfl (by decide) (w_lMiss z σ2 (5) _ (by decide) w) (fun u71 σ67 hq69 => ?_)
          obtain ⟨rfl, hF68, w⟩ := hq69
          have w := w hF68
          refine wk_b tt_50 3 (pc' := 52) (ls' := [(4, .inl (((v_lCell σ (a1) (v1)) + (v_lCell σ (a2) (v1))))), (0, .inr (.inr (.ref 61))), (1, .inl (a1)), (2, .inl (a2)), (3, .inl (v1))]) (st' := [.inl (0), .inr (.inr (.ref 77))]) (σ' := σ67) rfl ?_
          refine wk_call tt_50 rfl rfl rfl rfl rfl tt_105 rfl (by decide) (w_lFirst z σ67 (0) _ (by decide) w) (fun u77 σ73 hq75 => ?_)
          obtain ⟨rfl, hF74, w⟩ := hq75
          have w := w hF74
          refine wk_b tt_50 1 (pc' := 133) (ls' := [(4, .inl (((v_lCell σ (a1) (v1)) + (v_lCell σ (a2) (v1))))), (0, .inr (.inr (.ref 61))), (1, .inl (a1)), (2, .inl (a2)), (3, .inl (v1))]) (st' := []) (σ' := σ73) rfl ?_
          exact wk_ls [(0, .inr (.inr (.ref 61))), (1, .inl (a1)), (2, .inl (a2)), (3, .inl (v1))] rfl ⟨rfl, rfl, rfl, rfl, trivial⟩ (jn29 σ73 (sg_F_t (sg_F_t (sg_F_r [83, 85, 86, 87, 12077, 14077, 15077, 16077] σ2) (sg_F_m (L := [83, 85, 86, 87, 12077, 14077, 15077, 16077]) hF68 rfl)) (sg_F_m (L := [83, 85, 86, 87, 12077, 14077, 15077, 16077]) hF74 rfl)) w)
  exact wk_ls [(0, .inr (.inr (.ref 61))), (1, .inl (a1)), (2, .inl (a2)), (3, .inl (0))] rfl ⟨rfl, rfl, rfl, rfl, trivial⟩ (lp10 μ5 (0) σ (by decide) (sg_F_r _ _) w11)
