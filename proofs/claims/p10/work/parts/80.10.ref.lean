/-! Conditions of the reference's methods, by program (10). -/
-- NestedVectorsModel.defNamed
def V_defNamed (σ : sg_S) (a1 : Int) (Q : Int → sg_S → Prop) : Prop := sg_R ((sg_g σ 88 45) - 1) ∧ (∃ (I5 : Nat → Int → Prop) (X7 : Int → Prop), (∃ n, I5 n (((sg_g σ 88 45) - 1))) ∧ (∀ (n15 : Nat) (v2 : Int), sg_R v2 → I5 n15 v2 → ((v2 < 0 → X7 (v2)) ∧ (0 ≤ v2 → (0 ≤ v2 ∧ v2 < 12) ∧ (((sg_gl σ 103 (v2)) = a1 → X7 (v2)) ∧ (¬ (sg_gl σ 103 (v2)) = a1 → sg_R (v2 + (-1)) ∧ (∃ m, m < n15 ∧ I5 m ((v2 + (-1))))))))) ∧ (∀ (v2 : Int), sg_R v2 → X7 v2 → Q (v2) σ))
set_option maxHeartbeats 4000000 in
set_option maxRecDepth 8000 in
theorem w_defNamed (z : Value) (σ : sg_S) (a1 : Int) (Q : Int → sg_S → Prop) (ra1 : sg_RL a1) (w : V_defNamed σ a1 Q) : wx z 0 221 0 [(0, .inr (.inr (.ref 88))), (1, .inr (.inl (a1)))] [] σ (fun v σ' => ∃ q, v = some (.inl q) ∧ sg_R q ∧ σ = σ' ∧ Q q σ') := by
  unfold V_defNamed at w
  obtain ⟨c1, w⟩ := w
  refine wk_b tt_221 5 (pc' := 7) (ls' := [(3, .inl (((sg_g σ 88 45) - 1))), (0, .inr (.inr (.ref 88))), (1, .inr (.inl (a1)))]) (st' := []) (σ' := σ) rfl ?_
  obtain ⟨I5, X7, ⟨μ6, w12⟩, w13, w14⟩ := w
  have ex16 : ∀ (v2 : Int), sg_R v2 → X7 v2 → wx z 0 221 28 [(3, .inl (v2))] [] σ (fun v σ' => ∃ q, v = some (.inl q) ∧ sg_R q ∧ σ = σ' ∧ Q q σ') := by
    intro v2 r8 w
    have w := w14 v2 r8 w
    refine wk_b tt_221 1 (pc' := 29) (ls' := [(3, .inl (v2))]) (st' := [.inl (v2)]) (σ' := σ) rfl ?_
    exact wk_rI tt_221 rfl rfl ⟨_, rfl, r8, rfl, w⟩
  have lp11 : ∀ (n15 : Nat) (v2 : Int), sg_R v2 → I5 n15 v2 → wx z 0 221 7 [(0, .inr (.inr (.ref 88))), (1, .inr (.inl (a1))), (3, .inl (v2))] [] σ (fun v σ' => ∃ q, v = some (.inl q) ∧ sg_R q ∧ σ = σ' ∧ Q q σ') := by
    intro n15
    induction n15 using Nat.strongRecOn with
    | _ n15 ih9 =>
      intro v2 r8 w
      have w := w13 n15 v2 r8 w
      refine wk_b tt_221 1 (pc' := 8) (ls' := [(0, .inr (.inr (.ref 88))), (1, .inr (.inl (a1))), (3, .inl (v2))]) (st' := [.inl (v2)]) (σ' := σ) rfl ?_
      refine wk_if tt_221 (tgt := 28) rfl rfl r8 (fun (h17 : v2 < 0) => ?_) (fun (h17 : 0 ≤ v2) => ?_)
      ·
        have w := w.1 h17
        exact wk_ls [(3, .inl (v2))] rfl ⟨rfl, trivial⟩ (ex16 (v2)  r8  w)
      ·
        have w := w.2 h17
        refine wk_b tt_221 3 (pc' := 16) (ls' := [(0, .inr (.inr (.ref 88))), (1, .inr (.inl (a1))), (3, .inl (v2))]) (st' := [.inl (v2), .inr (.inr (.ref 103))]) (σ' := σ) rfl ?_
        obtain ⟨c18, w⟩ := w
        refine wk_la tt_221 rfl rfl c18.1 c18.2 r8 ?_
        refine wk_b tt_221 1 (pc' := 18) (ls' := [(0, .inr (.inr (.ref 88))), (1, .inr (.inl (a1))), (3, .inl (v2))]) (st' := [.inr (.inl (a1)), .inr (.inl ((sg_gl σ 103 (v2))))]) (σ' := σ) rfl ?_
        refine wk_lcif tt_221 (tgt := 28) rfl rfl rfl (sg_Rgl _ _ _) ra1 (fun (h19 : (sg_gl σ 103 (v2)) = a1) => ?_) (fun (h19 : ¬ (sg_gl σ 103 (v2)) = a1) => ?_)
        ·
          have w := w.1 h19
          exact wk_ls [(3, .inl (v2))] rfl ⟨rfl, trivial⟩ (ex16 (v2)  r8  w)
        ·
          have w := w.2 h19
          obtain ⟨c20, w⟩ := w
          refine wk_b tt_221 2 (pc' := 7) (ls' := [(3, .inl ((v2 + (-1)))), (0, .inr (.inr (.ref 88))), (1, .inr (.inl (a1)))]) (st' := []) (σ' := σ) rfl ?_
          obtain ⟨m21, hm21, w⟩ := w
          exact wk_ls [(0, .inr (.inr (.ref 88))), (1, .inr (.inl (a1))), (3, .inl ((v2 + (-1))))] rfl ⟨rfl, rfl, rfl, trivial⟩ (ih9 m21 hm21 ((v2 + (-1)))  c20  w)
  exact wk_ls [(0, .inr (.inr (.ref 88))), (1, .inr (.inl (a1))), (3, .inl (((sg_g σ 88 45) - 1)))] rfl ⟨rfl, rfl, rfl, trivial⟩ (lp11 μ6 (((sg_g σ 88 45) - 1))  c1  w12)
-- NestedVectorsModel.donePlace
def V_donePlace (σ : sg_S) (a1 : Int) (a2 : Int) (Q : sg_S → Prop) : Prop := (0 ≤ a1 ∧ a1 < 4000) ∧ ∀ v4 : Int, v4 = (if (sg_g σ 131 (a1)) ≤ (sg_g σ 132 (a1)) then (sg_g σ 132 (a1)) else (sg_g σ 131 (a1))) → sg_R v4 → ∀ σ7, σ7 = (sg_w σ 132 (a1) (v4)) → sg_R ((sg_g σ 130 (a1)) + 1) ∧ ∀ σ11, σ11 = (sg_w σ7 130 (a1) (((sg_g σ 130 (a1)) + 1))) → sg_R (a2 + 1) ∧ ∀ σ15, σ15 = (sg_w σ11 127 (a1) ((a2 + 1))) → Q σ15
set_option maxHeartbeats 4000000 in
set_option maxRecDepth 8000 in
theorem w_donePlace (z : Value) (σ : sg_S) (a1 : Int) (a2 : Int) (Q : sg_S → Prop) (ra1 : sg_R a1) (ra2 : sg_R a2) (w : V_donePlace σ a1 a2 Q) : wx z 0 222 0 [(0, .inr (.inr (.ref 88))), (1, .inl (a1)), (2, .inl (a2))] [] σ (fun v σ' => v = none ∧ sg_F [127, 130, 132] σ σ' ∧ Q σ') := by
  unfold V_donePlace at w
  refine wk_b tt_222 6 (pc' := 10) (ls' := [(0, .inr (.inr (.ref 88))), (1, .inl (a1)), (2, .inl (a2))]) (st' := [.inl (a1), .inr (.inr (.ref 131)), .inl (a1), .inr (.inr (.ref 132))]) (σ' := σ) rfl ?_
  obtain ⟨c1, w⟩ := w
  refine wk_ia tt_222 rfl rfl c1.1 c1.2 ra1 ?_
  refine wk_b tt_222 3 (pc' := 16) (ls' := [(0, .inr (.inr (.ref 88))), (1, .inl (a1)), (2, .inl (a2))]) (st' := [.inl (a1), .inr (.inr (.ref 132)), .inl ((sg_g σ 131 (a1))), .inl (a1), .inr (.inr (.ref 132))]) (σ' := σ) rfl ?_
  refine wk_ia tt_222 rfl rfl c1.1 c1.2 ra1 ?_
  have jn3 : ∀ v4 : Int, v4 = (if (sg_g σ 131 (a1)) ≤ (sg_g σ 132 (a1)) then (sg_g σ 132 (a1)) else (sg_g σ 131 (a1))) → sg_R v4 → wx z 0 222 35 [(0, .inr (.inr (.ref 88))), (1, .inl (a1)), (2, .inl (a2))] [.inl (v4), .inl (a1), .inr (.inr (.ref 132))] σ (fun v σ' => v = none ∧ sg_F [127, 130, 132] σ σ' ∧ Q σ') := by
    intro v4 e6 r5
    have w := w v4 e6 r5
    refine wk_is tt_222 rfl rfl c1.1 c1.2 ra1 ?_
    generalize hs8 : (sg_w σ 132 (a1) (v4)) = σ7
    have w := w σ7 hs8.symm
    have hF9 : sg_F [132] σ σ7 := by rw [← hs8]; exact sg_F_w (sg_F_r _ _) rfl _
    refine wk_b tt_222 4 (pc' := 42) (ls' := [(0, .inr (.inr (.ref 88))), (1, .inl (a1)), (2, .inl (a2))]) (st' := [.inl (a1), .inr (.inr (.ref 130)), .inl (a1), .inr (.inr (.ref 130))]) (σ' := σ7) rfl ?_
    refine wk_ia tt_222 rfl rfl c1.1 c1.2 ra1 ?_
    rw [show (sg_g σ7 130 (a1)) = (sg_g σ 130 (a1)) from by rw [sg_F_ga hF9 rfl]]
    obtain ⟨c10, w⟩ := w
    refine wk_b tt_222 2 (pc' := 45) (ls' := [(0, .inr (.inr (.ref 88))), (1, .inl (a1)), (2, .inl (a2))]) (st' := [.inl (((sg_g σ 130 (a1)) + 1)), .inl (a1), .inr (.inr (.ref 130))]) (σ' := σ7) rfl ?_
    refine wk_is tt_222 rfl rfl c1.1 c1.2 ra1 ?_
    generalize hs12 : (sg_w σ7 130 (a1) (((sg_g σ 130 (a1)) + 1))) = σ11
    have w := w σ11 hs12.symm
    have hF13 : sg_F [130] σ7 σ11 := by rw [← hs12]; exact sg_F_w (sg_F_r _ _) rfl _
    obtain ⟨c14, w⟩ := w
    refine wk_b tt_222 6 (pc' := 54) (ls' := [(0, .inr (.inr (.ref 88))), (1, .inl (a1)), (2, .inl (a2))]) (st' := [.inl ((a2 + 1)), .inl (a1), .inr (.inr (.ref 127))]) (σ' := σ11) rfl ?_
    refine wk_is tt_222 rfl rfl c1.1 c1.2 ra1 ?_
    generalize hs16 : (sg_w σ11 127 (a1) ((a2 + 1))) = σ15
    have w := w σ15 hs16.symm
    have hF17 : sg_F [127] σ11 σ15 := by rw [← hs16]; exact sg_F_w (sg_F_r _ _) rfl _
    exact wk_rV tt_222 rfl rfl ⟨rfl, (sg_F_t (sg_F_t (sg_F_t (sg_F_r [127, 130, 132] σ) (sg_F_m (L := [127, 130, 132]) hF9 rfl)) (sg_F_m (L := [127, 130, 132]) hF13 rfl)) (sg_F_m (L := [127, 130, 132]) hF17 rfl)), w⟩
  refine wk_if2 tt_222 (tgt := 29) rfl rfl (sg_Rg _ _ _) (sg_Rg _ _ _) (fun (h2 : (sg_g σ 131 (a1)) ≤ (sg_g σ 132 (a1))) => ?_) (fun (h2 : (sg_g σ 132 (a1)) < (sg_g σ 131 (a1))) => ?_)
  ·
    clear w
    refine wk_b tt_222 3 (pc' := 34) (ls' := [(0, .inr (.inr (.ref 88))), (1, .inl (a1)), (2, .inl (a2))]) (st' := [.inl (a1), .inr (.inr (.ref 132)), .inl (a1), .inr (.inr (.ref 132))]) (σ' := σ) rfl ?_
    refine wk_ia tt_222 rfl rfl c1.1 c1.2 ra1 ?_
    exact wk_ls [(0, .inr (.inr (.ref 88))), (1, .inl (a1)), (2, .inl (a2))] rfl ⟨rfl, rfl, rfl, trivial⟩ (jn3 ((sg_g σ 132 (a1))) (by simp only [if_pos h2]) (sg_Rg _ _ _))
  ·
    clear w
    refine wk_b tt_222 3 (pc' := 25) (ls' := [(0, .inr (.inr (.ref 88))), (1, .inl (a1)), (2, .inl (a2))]) (st' := [.inl (a1), .inr (.inr (.ref 131)), .inl (a1), .inr (.inr (.ref 132))]) (σ' := σ) rfl ?_
    refine wk_ia tt_222 rfl rfl c1.1 c1.2 ra1 ?_
    refine wk_b tt_222 1 (pc' := 35) (ls' := [(0, .inr (.inr (.ref 88))), (1, .inl (a1)), (2, .inl (a2))]) (st' := [.inl ((sg_g σ 131 (a1))), .inl (a1), .inr (.inr (.ref 132))]) (σ' := σ) rfl ?_
    exact wk_ls [(0, .inr (.inr (.ref 88))), (1, .inl (a1)), (2, .inl (a2))] rfl ⟨rfl, rfl, rfl, trivial⟩ (jn3 ((sg_g σ 131 (a1))) (by simp only [if_neg (show ¬ ((sg_g σ 131 (a1)) ≤ (sg_g σ 132 (a1))) by omega)]) (sg_Rg _ _ _))
-- NestedVectorsModel.tellsCount
def v_tellsCount  (a1 : Int) : Int := (if a1 = 14 then (1 : Int) else (if a1 = 15 then (1 : Int) else (if a1 = 16 then (1 : Int) else (if a1 = 17 then (1 : Int) else (if a1 ≤ 20 then (0 : Int) else (1 : Int))))))
theorem vz_tellsCount  {a1 : Int} : v_tellsCount a1 = 0 ∨ v_tellsCount a1 = 1 := by
  unfold v_tellsCount
  by_cases h : a1 = 14
  · rw [if_pos h]
    exact Or.inr rfl
  · rw [if_neg h]
    by_cases h : a1 = 15
    · rw [if_pos h]
      exact Or.inr rfl
    · rw [if_neg h]
      by_cases h : a1 = 16
      · rw [if_pos h]
        exact Or.inr rfl
      · rw [if_neg h]
        by_cases h : a1 = 17
        · rw [if_pos h]
          exact Or.inr rfl
        · rw [if_neg h]
          by_cases h : a1 ≤ 20
          · rw [if_pos h]
            exact Or.inl rfl
          · rw [if_neg h]
            exact Or.inr rfl
set_option maxHeartbeats 4000000 in
set_option maxRecDepth 8000 in
theorem w_tellsCount (z : Value) (σ : sg_S) (a1 : Int) (ra1 : sg_R a1) : wx z 0 330 0 [(0, .inr (.inr (.ref 88))), (1, .inl (a1))] [] σ (fun v σ' => v = some (.inl (v_tellsCount a1)) ∧ σ' = σ) := by
  refine wk_b tt_330 2 (pc' := 3) (ls' := [(0, .inr (.inr (.ref 88))), (1, .inl (a1))]) (st' := [.inl (14), .inl (a1)]) (σ' := σ) rfl ?_
  refine wk_if2 tt_330 (tgt := 30) rfl rfl ra1 (by decide) (fun (h1 : a1 = 14) => ?_) (fun (h1 : ¬ a1 = 14) => ?_)
  ·
    refine wk_b tt_330 2 (pc' := 35) (ls' := [(0, .inr (.inr (.ref 88))), (1, .inl (a1))]) (st' := [.inl (1)]) (σ' := σ) rfl ?_
    exact wk_rZ tt_330 rfl rfl (by decide) ⟨by rw [v_tellsCount, if_pos h1], rfl⟩
  ·
    refine wk_b tt_330 2 (pc' := 9) (ls' := [(0, .inr (.inr (.ref 88))), (1, .inl (a1))]) (st' := [.inl (15), .inl (a1)]) (σ' := σ) rfl ?_
    refine wk_if2 tt_330 (tgt := 30) rfl rfl ra1 (by decide) (fun (h2 : a1 = 15) => ?_) (fun (h2 : ¬ a1 = 15) => ?_)
    ·
      refine wk_b tt_330 2 (pc' := 35) (ls' := [(0, .inr (.inr (.ref 88))), (1, .inl (a1))]) (st' := [.inl (1)]) (σ' := σ) rfl ?_
      exact wk_rZ tt_330 rfl rfl (by decide) ⟨by rw [v_tellsCount, if_neg (show ¬ (a1 = 14) by omega), if_pos h2], rfl⟩
    ·
      refine wk_b tt_330 2 (pc' := 15) (ls' := [(0, .inr (.inr (.ref 88))), (1, .inl (a1))]) (st' := [.inl (16), .inl (a1)]) (σ' := σ) rfl ?_
      refine wk_if2 tt_330 (tgt := 30) rfl rfl ra1 (by decide) (fun (h3 : a1 = 16) => ?_) (fun (h3 : ¬ a1 = 16) => ?_)
      ·
        refine wk_b tt_330 2 (pc' := 35) (ls' := [(0, .inr (.inr (.ref 88))), (1, .inl (a1))]) (st' := [.inl (1)]) (σ' := σ) rfl ?_
        exact wk_rZ tt_330 rfl rfl (by decide) ⟨by rw [v_tellsCount, if_neg (show ¬ (a1 = 14) by omega), if_neg (show ¬ (a1 = 15) by omega), if_pos h3], rfl⟩
      ·
        refine wk_b tt_330 2 (pc' := 21) (ls' := [(0, .inr (.inr (.ref 88))), (1, .inl (a1))]) (st' := [.inl (17), .inl (a1)]) (σ' := σ) rfl ?_
        refine wk_if2 tt_330 (tgt := 30) rfl rfl ra1 (by decide) (fun (h4 : a1 = 17) => ?_) (fun (h4 : ¬ a1 = 17) => ?_)
        ·
          refine wk_b tt_330 2 (pc' := 35) (ls' := [(0, .inr (.inr (.ref 88))), (1, .inl (a1))]) (st' := [.inl (1)]) (σ' := σ) rfl ?_
          exact wk_rZ tt_330 rfl rfl (by decide) ⟨by rw [v_tellsCount, if_neg (show ¬ (a1 = 14) by omega), if_neg (show ¬ (a1 = 15) by omega), if_neg (show ¬ (a1 = 16) by omega), if_pos h4], rfl⟩
        ·
          refine wk_b tt_330 2 (pc' := 27) (ls' := [(0, .inr (.inr (.ref 88))), (1, .inl (a1))]) (st' := [.inl (20), .inl (a1)]) (σ' := σ) rfl ?_
          refine wk_if2 tt_330 (tgt := 34) rfl rfl ra1 (by decide) (fun (h5 : a1 ≤ 20) => ?_) (fun (h5 : 20 < a1) => ?_)
          ·
            refine wk_b tt_330 1 (pc' := 35) (ls' := [(0, .inr (.inr (.ref 88))), (1, .inl (a1))]) (st' := [.inl (0)]) (σ' := σ) rfl ?_
            exact wk_rZ tt_330 rfl rfl (by decide) ⟨by rw [v_tellsCount, if_neg (show ¬ (a1 = 14) by omega), if_neg (show ¬ (a1 = 15) by omega), if_neg (show ¬ (a1 = 16) by omega), if_neg (show ¬ (a1 = 17) by omega), if_pos h5], rfl⟩
          ·
            refine wk_b tt_330 2 (pc' := 35) (ls' := [(0, .inr (.inr (.ref 88))), (1, .inl (a1))]) (st' := [.inl (1)]) (σ' := σ) rfl ?_
            exact wk_rZ tt_330 rfl rfl (by decide) ⟨by rw [v_tellsCount, if_neg (show ¬ (a1 = 14) by omega), if_neg (show ¬ (a1 = 15) by omega), if_neg (show ¬ (a1 = 16) by omega), if_neg (show ¬ (a1 = 17) by omega), if_neg (show ¬ (a1 ≤ 20) by omega)], rfl⟩
-- NestedVectorsModel.isInPlaces
def v_isInPlaces (σ : sg_S) (a1 : Int) : Int := (if ¬ (sg_g σ 93 ((sg_g σ 126 (a1)))) = 15 then (0 : Int) else (if (sg_g σ 127 (a1)) ≤ (sg_g σ 98 ((sg_g σ 126 (a1)))) then (0 : Int) else (1 : Int)))
def p_isInPlaces (σ : sg_S) (a1 : Int) : Prop := (0 ≤ a1 ∧ a1 < 4000) ∧ (0 ≤ (sg_g σ 126 (a1)) ∧ (sg_g σ 126 (a1)) < 210) ∧ ((¬ (sg_g σ 93 ((sg_g σ 126 (a1)))) = 15 → True) ∧ ((sg_g σ 93 ((sg_g σ 126 (a1)))) = 15 → (((sg_g σ 127 (a1)) ≤ (sg_g σ 98 ((sg_g σ 126 (a1)))) → True) ∧ ((sg_g σ 98 ((sg_g σ 126 (a1)))) < (sg_g σ 127 (a1)) → True))))
theorem vz_isInPlaces {σ : sg_S} {a1 : Int} : v_isInPlaces σ a1 = 0 ∨ v_isInPlaces σ a1 = 1 := by
  unfold v_isInPlaces
  by_cases h : ¬ (sg_g σ 93 ((sg_g σ 126 (a1)))) = 15
  · rw [if_pos h]
    exact Or.inl rfl
  · rw [if_neg h]
    by_cases h : (sg_g σ 127 (a1)) ≤ (sg_g σ 98 ((sg_g σ 126 (a1))))
    · rw [if_pos h]
      exact Or.inl rfl
    · rw [if_neg h]
      exact Or.inr rfl
set_option maxHeartbeats 4000000 in
set_option maxRecDepth 8000 in
theorem w_isInPlaces (z : Value) (σ : sg_S) (a1 : Int) (ra1 : sg_R a1) (w : p_isInPlaces σ a1) : wx z 0 262 0 [(0, .inr (.inr (.ref 88))), (1, .inl (a1))] [] σ (fun v σ' => v = some (.inl (v_isInPlaces σ a1)) ∧ σ' = σ) := by
  unfold p_isInPlaces at w
  refine wk_b tt_262 5 (pc' := 9) (ls' := [(0, .inr (.inr (.ref 88))), (1, .inl (a1))]) (st' := [.inl (a1), .inr (.inr (.ref 126)), .inr (.inr (.ref 93))]) (σ' := σ) rfl ?_
  obtain ⟨c1, w⟩ := w
  refine wk_ia tt_262 rfl rfl c1.1 c1.2 ra1 ?_
  obtain ⟨c2, w⟩ := w
  refine wk_ia tt_262 rfl rfl c2.1 c2.2 (sg_Rg _ _ _) ?_
  refine wk_b tt_262 1 (pc' := 13) (ls' := [(0, .inr (.inr (.ref 88))), (1, .inl (a1))]) (st' := [.inl (15), .inl ((sg_g σ 93 ((sg_g σ 126 (a1)))))]) (σ' := σ) rfl ?_
  refine wk_if2 tt_262 (tgt := 40) rfl rfl (sg_Rg _ _ _) (by decide) (fun (h3 : ¬ (sg_g σ 93 ((sg_g σ 126 (a1)))) = 15) => ?_) (fun (h3 : (sg_g σ 93 ((sg_g σ 126 (a1)))) = 15) => ?_)
  ·
    have w := w.1 h3
    refine wk_b tt_262 1 (pc' := 41) (ls' := [(0, .inr (.inr (.ref 88))), (1, .inl (a1))]) (st' := [.inl (0)]) (σ' := σ) rfl ?_
    exact wk_rZ tt_262 rfl rfl (by decide) ⟨by rw [v_isInPlaces, if_pos h3], rfl⟩
  ·
    have w := w.2 h3
    refine wk_b tt_262 3 (pc' := 21) (ls' := [(0, .inr (.inr (.ref 88))), (1, .inl (a1))]) (st' := [.inl (a1), .inr (.inr (.ref 127))]) (σ' := σ) rfl ?_
    refine wk_ia tt_262 rfl rfl c1.1 c1.2 ra1 ?_
    refine wk_b tt_262 5 (pc' := 31) (ls' := [(0, .inr (.inr (.ref 88))), (1, .inl (a1))]) (st' := [.inl (a1), .inr (.inr (.ref 126)), .inr (.inr (.ref 98)), .inl ((sg_g σ 127 (a1)))]) (σ' := σ) rfl ?_
    refine wk_ia tt_262 rfl rfl c1.1 c1.2 ra1 ?_
    refine wk_ia tt_262 rfl rfl c2.1 c2.2 (sg_Rg _ _ _) ?_
    refine wk_if2 tt_262 (tgt := 40) rfl rfl (sg_Rg _ _ _) (sg_Rg _ _ _) (fun (h4 : (sg_g σ 127 (a1)) ≤ (sg_g σ 98 ((sg_g σ 126 (a1))))) => ?_) (fun (h4 : (sg_g σ 98 ((sg_g σ 126 (a1)))) < (sg_g σ 127 (a1))) => ?_)
    ·
      have w := w.1 h4
      refine wk_b tt_262 1 (pc' := 41) (ls' := [(0, .inr (.inr (.ref 88))), (1, .inl (a1))]) (st' := [.inl (0)]) (σ' := σ) rfl ?_
      exact wk_rZ tt_262 rfl rfl (by decide) ⟨by rw [v_isInPlaces, if_neg (show ¬ (¬ (sg_g σ 93 ((sg_g σ 126 (a1)))) = 15) by omega), if_pos h4], rfl⟩
    ·
      have w := w.2 h4
      refine wk_b tt_262 2 (pc' := 41) (ls' := [(0, .inr (.inr (.ref 88))), (1, .inl (a1))]) (st' := [.inl (1)]) (σ' := σ) rfl ?_
      exact wk_rZ tt_262 rfl rfl (by decide) ⟨by rw [v_isInPlaces, if_neg (show ¬ (¬ (sg_g σ 93 ((sg_g σ 126 (a1)))) = 15) by omega), if_neg (show ¬ ((sg_g σ 127 (a1)) ≤ (sg_g σ 98 ((sg_g σ 126 (a1))))) by omega)], rfl⟩
theorem vF_isInPlaces {L : List Nat} {σ σ' : sg_S} {a1 : Int} (hF : sg_F L σ σ') (h0 : sg_ca L 93 = true) (h1 : sg_ca L 98 = true) (h2 : sg_ca L 126 = true) (h3 : sg_ca L 127 = true) : v_isInPlaces σ' a1 = v_isInPlaces σ a1 := by
  unfold v_isInPlaces
  simp only [sg_F_ga (k := _) hF h0, sg_F_gal (k := _) hF h0, sg_F_ga (k := _) hF h1, sg_F_gal (k := _) hF h1, sg_F_ga (k := _) hF h2, sg_F_gal (k := _) hF h2, sg_F_ga (k := _) hF h3, sg_F_gal (k := _) hF h3]
theorem pF_isInPlaces {L : List Nat} {σ σ' : sg_S} {a1 : Int} (hF : sg_F L σ σ') (h0 : sg_ca L 93 = true) (h1 : sg_ca L 98 = true) (h2 : sg_ca L 126 = true) (h3 : sg_ca L 127 = true) : p_isInPlaces σ' a1 = p_isInPlaces σ a1 := by
  unfold p_isInPlaces
  simp only [sg_F_ga (k := _) hF h0, sg_F_gal (k := _) hF h0, sg_F_ga (k := _) hF h1, sg_F_gal (k := _) hF h1, sg_F_ga (k := _) hF h2, sg_F_gal (k := _) hF h2, sg_F_ga (k := _) hF h3, sg_F_gal (k := _) hF h3]
-- NestedVectorsModel.leave
def V_leave (σ : sg_S) (a1 : Int) (Q : sg_S → Prop) : Prop := sg_R ((sg_g σ 88 62) - 1) ∧ (0 ≤ ((sg_g σ 88 62) - 1) ∧ ((sg_g σ 88 62) - 1) < 4000) ∧ (0 ≤ (sg_g σ 126 (((sg_g σ 88 62) - 1))) ∧ (sg_g σ 126 (((sg_g σ 88 62) - 1))) < 210) ∧ (∃ P6 : sg_S → Prop, (((v_tellsCount ((sg_g σ 93 ((sg_g σ 126 (((sg_g σ 88 62) - 1))))))) = 0 → P6 σ) ∧ (¬ (v_tellsCount ((sg_g σ 93 ((sg_g σ 126 (((sg_g σ 88 62) - 1))))))) = 0 → (0 ≤ a1 ∧ a1 < 9000) ∧ V_works σ ((sg_gl σ 124 (a1))) (fun σ73 => sg_F [55088, 74088] σ σ73 → P6 σ73))) ∧ (∀ (σ7 : sg_S), sg_F [55088, 74088] σ σ7 → P6 σ7 → (∃ P12 : sg_S → Prop, (((sg_g σ 93 ((sg_g σ 126 (((sg_g σ 88 62) - 1))))) = 18 → (0 ≤ (sg_g σ 128 (((sg_g σ 88 62) - 1))) ∧ (sg_g σ 128 (((sg_g σ 88 62) - 1))) < 12000) ∧ (0 ≤ (sg_g σ 133 ((sg_g σ 128 (((sg_g σ 88 62) - 1))))) ∧ (sg_g σ 133 ((sg_g σ 128 (((sg_g σ 88 62) - 1))))) < 9000) ∧ V_works σ7 ((sg_g σ 123 ((sg_g σ 133 ((sg_g σ 128 (((sg_g σ 88 62) - 1)))))))) (fun σ48 => sg_F [55088, 74088] σ7 σ48 → P12 σ48)) ∧ (¬ (sg_g σ 93 ((sg_g σ 126 (((sg_g σ 88 62) - 1))))) = 18 → (((sg_g σ 93 ((sg_g σ 126 (((sg_g σ 88 62) - 1))))) = 19 → (0 ≤ (sg_g σ 128 (((sg_g σ 88 62) - 1))) ∧ (sg_g σ 128 (((sg_g σ 88 62) - 1))) < 12000) ∧ (0 ≤ (sg_g σ 133 ((sg_g σ 128 (((sg_g σ 88 62) - 1))))) ∧ (sg_g σ 133 ((sg_g σ 128 (((sg_g σ 88 62) - 1))))) < 9000) ∧ V_works σ7 ((sg_g σ 123 ((sg_g σ 133 ((sg_g σ 128 (((sg_g σ 88 62) - 1)))))))) (fun σ57 => sg_F [55088, 74088] σ7 σ57 → P12 σ57)) ∧ (¬ (sg_g σ 93 ((sg_g σ 126 (((sg_g σ 88 62) - 1))))) = 19 → ((¬ (sg_g σ 93 ((sg_g σ 126 (((sg_g σ 88 62) - 1))))) = 20 → P12 σ7) ∧ ((sg_g σ 93 ((sg_g σ 126 (((sg_g σ 88 62) - 1))))) = 20 → (0 ≤ (sg_g σ 128 (((sg_g σ 88 62) - 1))) ∧ (sg_g σ 128 (((sg_g σ 88 62) - 1))) < 12000) ∧ (0 ≤ (sg_g σ 133 ((sg_g σ 128 (((sg_g σ 88 62) - 1))))) ∧ (sg_g σ 133 ((sg_g σ 128 (((sg_g σ 88 62) - 1))))) < 9000) ∧ V_works σ7 ((sg_g σ 123 ((sg_g σ 133 ((sg_g σ 128 (((sg_g σ 88 62) - 1)))))))) (fun σ66 => sg_F [55088, 74088] σ7 σ66 → P12 σ66))))))) ∧ (∀ (σ13 : sg_S), sg_F [55088, 74088] σ7 σ13 → P12 σ13 → ∀ σ16, σ16 = (sg_w σ13 88 70 ((sg_g σ 128 (((sg_g σ 88 62) - 1))))) → (0 ≤ (sg_g σ 128 (((sg_g σ 88 62) - 1))) ∧ (sg_g σ 128 (((sg_g σ 88 62) - 1))) < 12000) ∧ ∀ σ20, σ20 = (sg_w σ16 133 ((sg_g σ 128 (((sg_g σ 88 62) - 1)))) (a1)) → sg_R ((sg_g σ 128 (((sg_g σ 88 62) - 1))) + 1) ∧ ∀ σ24, σ24 = (sg_w σ20 88 70 (((sg_g σ 128 (((sg_g σ 88 62) - 1))) + 1))) → ∀ σ27, σ27 = (sg_w σ24 88 62 (((sg_g σ 88 62) - 1))) → ((¬ ((sg_g σ 88 62) - 1) = 0 → sg_R (((sg_g σ 88 62) - 1) - 1) ∧ p_isInPlaces σ ((((sg_g σ 88 62) - 1) - 1)) ∧ (((v_isInPlaces σ ((((sg_g σ 88 62) - 1) - 1))) = 0 → (0 ≤ (((sg_g σ 88 62) - 1) - 1) ∧ (((sg_g σ 88 62) - 1) - 1) < 4000) ∧ ∀ σ35, σ35 = (sg_w σ27 129 ((((sg_g σ 88 62) - 1) - 1)) ((sg_n ((sg_g σ 129 ((((sg_g σ 88 62) - 1) - 1))) + (sg_g σ 129 (((sg_g σ 88 62) - 1))))))) → Q σ35) ∧ (¬ (v_isInPlaces σ ((((sg_g σ 88 62) - 1) - 1))) = 0 → (0 ≤ (((sg_g σ 88 62) - 1) - 1) ∧ (((sg_g σ 88 62) - 1) - 1) < 4000) ∧ ∀ σ39, σ39 = (sg_w σ27 131 ((((sg_g σ 88 62) - 1) - 1)) ((sg_n ((sg_g σ 131 ((((sg_g σ 88 62) - 1) - 1))) + (sg_g σ 129 (((sg_g σ 88 62) - 1))))))) → Q σ39))) ∧ (((sg_g σ 88 62) - 1) = 0 → ∀ σ42, σ42 = (sg_w σ27 88 55 ((sg_g σ 129 (((sg_g σ 88 62) - 1))))) → Q σ42))))))
set_option maxHeartbeats 4000000 in
set_option maxRecDepth 8000 in
theorem w_leave (z : Value) (σ : sg_S) (a1 : Int) (Q : sg_S → Prop) (ra1 : sg_R a1) (w : V_leave σ a1 Q) : wx z 1 278 0 [(0, .inr (.inr (.ref 88))), (1, .inl (a1))] [] σ (fun v σ' => v = none ∧ sg_F [129, 131, 133, 55088, 56088, 63088, 71088, 74088] σ σ' ∧ Q σ') := by
  unfold V_leave at w
  obtain ⟨c1, w⟩ := w
  refine wk_b tt_278 8 (pc' := 12) (ls' := [(2, .inl (((sg_g σ 88 62) - 1))), (0, .inr (.inr (.ref 88))), (1, .inl (a1))]) (st' := [.inl (((sg_g σ 88 62) - 1)), .inr (.inr (.ref 126))]) (σ' := σ) rfl ?_
  obtain ⟨c2, w⟩ := w
  refine wk_ia tt_278 rfl rfl c2.1 c2.2 c1 ?_
  refine wk_b tt_278 5 (pc' := 20) (ls' := [(3, .inl ((sg_g σ 126 (((sg_g σ 88 62) - 1))))), (2, .inl (((sg_g σ 88 62) - 1))), (0, .inr (.inr (.ref 88))), (1, .inl (a1))]) (st' := [.inl ((sg_g σ 126 (((sg_g σ 88 62) - 1)))), .inr (.inr (.ref 93)), .inr (.inr (.ref 88))]) (σ' := σ) rfl ?_
  obtain ⟨c3, w⟩ := w
  refine wk_ia tt_278 rfl rfl c3.1 c3.2 (sg_Rg _ _ _) ?_
  refine wk_callp tt_278 rfl rfl rfl rfl rfl tt_330 rfl (by decide) (w_tellsCount z σ ((sg_g σ 93 ((sg_g σ 126 (((sg_g σ 88 62) - 1)))))) (sg_Rg _ _ _) ) ?_
  obtain ⟨P6, w, w9⟩ := w
  have jn5 : ∀ (σ7 : sg_S), sg_F [55088, 74088] σ σ7 → P6 σ7 → wx z 1 278 37 [(0, .inr (.inr (.ref 88))), (1, .inl (a1)), (2, .inl (((sg_g σ 88 62) - 1))), (3, .inl ((sg_g σ 126 (((sg_g σ 88 62) - 1)))))] [] σ7 (fun v σ' => v = none ∧ sg_F [129, 131, 133, 55088, 56088, 63088, 71088, 74088] σ σ' ∧ Q σ') := by
    intro σ7 hF8 w
    have w := w9 σ7 hF8 w
    refine wk_b tt_278 3 (pc' := 42) (ls' := [(0, .inr (.inr (.ref 88))), (1, .inl (a1)), (2, .inl (((sg_g σ 88 62) - 1))), (3, .inl ((sg_g σ 126 (((sg_g σ 88 62) - 1)))))]) (st' := [.inl ((sg_g σ 126 (((sg_g σ 88 62) - 1)))), .inr (.inr (.ref 93))]) (σ' := σ7) rfl ?_
    refine wk_ia tt_278 rfl rfl c3.1 c3.2 (sg_Rg _ _ _) ?_
    rw [show (sg_g σ7 93 ((sg_g σ 126 (((sg_g σ 88 62) - 1))))) = (sg_g σ 93 ((sg_g σ 126 (((sg_g σ 88 62) - 1))))) from by rw [sg_F_ga hF8 rfl]]
    refine wk_b tt_278 1 (pc' := 45) (ls' := [(0, .inr (.inr (.ref 88))), (1, .inl (a1)), (2, .inl (((sg_g σ 88 62) - 1))), (3, .inl ((sg_g σ 126 (((sg_g σ 88 62) - 1)))))]) (st' := [.inl (18), .inl ((sg_g σ 93 ((sg_g σ 126 (((sg_g σ 88 62) - 1))))))]) (σ' := σ7) rfl ?_
    obtain ⟨P12, w, w15⟩ := w
    have jn11 : ∀ (σ13 : sg_S), sg_F [55088, 74088] σ7 σ13 → P12 σ13 → wx z 1 278 91 [(0, .inr (.inr (.ref 88))), (1, .inl (a1)), (2, .inl (((sg_g σ 88 62) - 1)))] [] σ13 (fun v σ' => v = none ∧ sg_F [129, 131, 133, 55088, 56088, 63088, 71088, 74088] σ σ' ∧ Q σ') := by
      intro σ13 hF14 w
      have w := w15 σ13 hF14 w
      refine wk_b tt_278 4 (pc' := 97) (ls' := [(0, .inr (.inr (.ref 88))), (1, .inl (a1)), (2, .inl (((sg_g σ 88 62) - 1)))]) (st' := [.inl (((sg_g σ 88 62) - 1)), .inr (.inr (.ref 128)), .inr (.inr (.ref 88))]) (σ' := σ13) rfl ?_
      refine wk_ia tt_278 rfl rfl c2.1 c2.2 c1 ?_
      rw [show (sg_g σ13 128 (((sg_g σ 88 62) - 1))) = (sg_g σ 128 (((sg_g σ 88 62) - 1))) from by rw [sg_F_ga hF14 rfl, sg_F_ga hF8 rfl]]
      refine wk_b tt_278 1 (pc' := 101) (ls' := [(0, .inr (.inr (.ref 88))), (1, .inl (a1)), (2, .inl (((sg_g σ 88 62) - 1)))]) (st' := []) (σ' := (sg_w σ13 88 70 ((sg_g σ 128 (((sg_g σ 88 62) - 1)))))) rfl ?_
      generalize hs17 : (sg_w σ13 88 70 ((sg_g σ 128 (((sg_g σ 88 62) - 1))))) = σ16
      have w := w σ16 hs17.symm
      have hF18 : sg_F [71088] σ13 σ16 := by rw [← hs17]; exact sg_F_w (sg_F_r _ _) rfl _
      refine wk_b tt_278 5 (pc' := 110) (ls' := [(0, .inr (.inr (.ref 88))), (1, .inl (a1)), (2, .inl (((sg_g σ 88 62) - 1)))]) (st' := [.inl (a1), .inl ((sg_g σ16 88 70)), .inr (.inr (.ref 133))]) (σ' := σ16) rfl ?_
      rw [show (sg_g σ16 88 70) = (sg_g σ 128 (((sg_g σ 88 62) - 1))) from by rw [(show sg_g σ16 88 70 = (sg_g σ 128 (((sg_g σ 88 62) - 1))) from by rw [← hs17]; exact sg_gw_e _ _ _ _ (sg_Rg _ _ _))]]
      obtain ⟨c19, w⟩ := w
      refine wk_is tt_278 rfl rfl c19.1 c19.2 (sg_Rg _ _ _) ?_
      generalize hs21 : (sg_w σ16 133 ((sg_g σ 128 (((sg_g σ 88 62) - 1)))) (a1)) = σ20
      have w := w σ20 hs21.symm
      have hF22 : sg_F [133] σ16 σ20 := by rw [← hs21]; exact sg_F_w (sg_F_r _ _) rfl _
      obtain ⟨c23, w⟩ := w
      refine wk_b tt_278 6 (pc' := 121) (ls' := [(0, .inr (.inr (.ref 88))), (1, .inl (a1)), (2, .inl (((sg_g σ 88 62) - 1)))]) (st' := []) (σ' := (sg_w σ20 88 70 (((sg_g σ20 88 70) + 1)))) rfl ?_
      rw [show (sg_g σ20 88 70) = (sg_g σ 128 (((sg_g σ 88 62) - 1))) from by rw [sg_F_ga hF22 rfl, (show sg_g σ16 88 70 = (sg_g σ 128 (((sg_g σ 88 62) - 1))) from by rw [← hs17]; exact sg_gw_e _ _ _ _ (sg_Rg _ _ _))]]
      generalize hs25 : (sg_w σ20 88 70 (((sg_g σ 128 (((sg_g σ 88 62) - 1))) + 1))) = σ24
      have w := w σ24 hs25.symm
      have hF26 : sg_F [71088] σ20 σ24 := by rw [← hs25]; exact sg_F_w (sg_F_r _ _) rfl _
      refine wk_b tt_278 6 (pc' := 131) (ls' := [(0, .inr (.inr (.ref 88))), (1, .inl (a1)), (2, .inl (((sg_g σ 88 62) - 1)))]) (st' := []) (σ' := (sg_w σ24 88 62 (((sg_g σ24 88 62) - 1)))) rfl ?_
      rw [show (sg_g σ24 88 62) = (sg_g σ 88 62) from by rw [sg_F_g hF26 rfl, sg_F_ga hF22 rfl, sg_F_g hF18 rfl, sg_F_g hF14 rfl, sg_F_g hF8 rfl]]
      generalize hs28 : (sg_w σ24 88 62 (((sg_g σ 88 62) - 1))) = σ27
      have w := w σ27 hs28.symm
      have hF29 : sg_F [63088] σ24 σ27 := by rw [← hs28]; exact sg_F_w (sg_F_r _ _) rfl _
      refine wk_b tt_278 2 (pc' := 135) (ls' := [(0, .inr (.inr (.ref 88))), (1, .inl (a1)), (2, .inl (((sg_g σ 88 62) - 1)))]) (st' := [.inl ((sg_g σ27 88 62))]) (σ' := σ27) rfl ?_
      rw [show (sg_g σ27 88 62) = ((sg_g σ 88 62) - 1) from by rw [(show sg_g σ27 88 62 = ((sg_g σ 88 62) - 1) from by rw [← hs28]; exact sg_gw_e _ _ _ _ c1)]]
      refine wk_if tt_278 (tgt := 151) rfl rfl c1 (fun (h30 : ¬ ((sg_g σ 88 62) - 1) = 0) => ?_) (fun (h30 : ((sg_g σ 88 62) - 1) = 0) => ?_)
      ·
        have w := w.1 h30
        obtain ⟨c31, w⟩ := w
        refine wk_b tt_278 5 (pc' := 158) (ls' := [(0, .inr (.inr (.ref 88))), (1, .inl (a1)), (2, .inl (((sg_g σ 88 62) - 1)))]) (st' := [.inl (((sg_g σ27 88 62) - 1)), .inr (.inr (.ref 88))]) (σ' := σ27) rfl ?_
        rw [show (sg_g σ27 88 62) = ((sg_g σ 88 62) - 1) from by rw [(show sg_g σ27 88 62 = ((sg_g σ 88 62) - 1) from by rw [← hs28]; exact sg_gw_e _ _ _ _ c1)]]
        obtain ⟨c32, w⟩ := w
        have c32 : p_isInPlaces σ27 ((((sg_g σ 88 62) - 1) - 1)) := by
          rw [pF_isInPlaces hF29 rfl rfl rfl rfl, pF_isInPlaces hF26 rfl rfl rfl rfl, pF_isInPlaces hF22 rfl rfl rfl rfl, pF_isInPlaces hF18 rfl rfl rfl rfl, pF_isInPlaces hF14 rfl rfl rfl rfl, pF_isInPlaces hF8 rfl rfl rfl rfl]; exact c32
        refine wk_callp tt_278 rfl rfl rfl rfl rfl tt_262 rfl (by decide) (w_isInPlaces z σ27 ((((sg_g σ 88 62) - 1) - 1)) c31 c32) ?_
        rw [vF_isInPlaces hF29 rfl rfl rfl rfl, vF_isInPlaces hF26 rfl rfl rfl rfl, vF_isInPlaces hF22 rfl rfl rfl rfl, vF_isInPlaces hF18 rfl rfl rfl rfl, vF_isInPlaces hF14 rfl rfl rfl rfl, vF_isInPlaces hF8 rfl rfl rfl rfl]
        refine wk_if tt_278 (tgt := 187) rfl rfl (sg_Rz (vz_isInPlaces ..)) (fun (h33 : (v_isInPlaces σ ((((sg_g σ 88 62) - 1) - 1))) = 0) => ?_) (fun (h33 : ¬ (v_isInPlaces σ ((((sg_g σ 88 62) - 1) - 1))) = 0) => ?_)
        ·
          have w := w.1 h33
          refine wk_b tt_278 7 (pc' := 198) (ls' := [(0, .inr (.inr (.ref 88))), (1, .inl (a1)), (2, .inl (((sg_g σ 88 62) - 1)))]) (st' := [.inl (((sg_g σ27 88 62) - 1)), .inr (.inr (.ref 129)), .inl (((sg_g σ27 88 62) - 1)), .inr (.inr (.ref 129))]) (σ' := σ27) rfl ?_
          rw [show (sg_g σ27 88 62) = ((sg_g σ 88 62) - 1) from by rw [(show sg_g σ27 88 62 = ((sg_g σ 88 62) - 1) from by rw [← hs28]; exact sg_gw_e _ _ _ _ c1)]]
          obtain ⟨c34, w⟩ := w
          refine wk_ia tt_278 rfl rfl c34.1 c34.2 c31 ?_
          rw [show (sg_g σ27 129 ((((sg_g σ 88 62) - 1) - 1))) = (sg_g σ 129 ((((sg_g σ 88 62) - 1) - 1))) from by rw [sg_F_ga hF29 rfl, sg_F_ga hF26 rfl, sg_F_ga hF22 rfl, sg_F_ga hF18 rfl, sg_F_ga hF14 rfl, sg_F_ga hF8 rfl]]
          refine wk_b tt_278 3 (pc' := 204) (ls' := [(0, .inr (.inr (.ref 88))), (1, .inl (a1)), (2, .inl (((sg_g σ 88 62) - 1)))]) (st' := [.inl (((sg_g σ 88 62) - 1)), .inr (.inr (.ref 129)), .inl ((sg_g σ 129 ((((sg_g σ 88 62) - 1) - 1)))), .inl ((((sg_g σ 88 62) - 1) - 1)), .inr (.inr (.ref 129))]) (σ' := σ27) rfl ?_
          refine wk_ia tt_278 rfl rfl c2.1 c2.2 c1 ?_
          rw [show (sg_g σ27 129 (((sg_g σ 88 62) - 1))) = (sg_g σ 129 (((sg_g σ 88 62) - 1))) from by rw [sg_F_ga hF29 rfl, sg_F_ga hF26 rfl, sg_F_ga hF22 rfl, sg_F_ga hF18 rfl, sg_F_ga hF14 rfl, sg_F_ga hF8 rfl]]
          refine wk_b tt_278 1 (pc' := 206) (ls' := [(0, .inr (.inr (.ref 88))), (1, .inl (a1)), (2, .inl (((sg_g σ 88 62) - 1)))]) (st' := [.inl (((sg_g σ 129 ((((sg_g σ 88 62) - 1) - 1))) + (sg_g σ 129 (((sg_g σ 88 62) - 1))))), .inl ((((sg_g σ 88 62) - 1) - 1)), .inr (.inr (.ref 129))]) (σ' := σ27) rfl ?_
          refine wk_n ?_
          refine wk_is tt_278 rfl rfl c34.1 c34.2 c31 ?_
          generalize hs36 : (sg_w σ27 129 ((((sg_g σ 88 62) - 1) - 1)) ((sg_n ((sg_g σ 129 ((((sg_g σ 88 62) - 1) - 1))) + (sg_g σ 129 (((sg_g σ 88 62) - 1))))))) = σ35
          have w := w σ35 hs36.symm
          have hF37 : sg_F [129] σ27 σ35 := by rw [← hs36]; exact sg_F_w (sg_F_r _ _) rfl _
          exact wk_rV tt_278 rfl rfl ⟨rfl, (sg_F_t (sg_F_t (sg_F_t (sg_F_t (sg_F_t (sg_F_t (sg_F_t (sg_F_r [129, 131, 133, 55088, 56088, 63088, 71088, 74088] σ) (sg_F_m (L := [129, 131, 133, 55088, 56088, 63088, 71088, 74088]) hF8 rfl)) (sg_F_m (L := [129, 131, 133, 55088, 56088, 63088, 71088, 74088]) hF14 rfl)) (sg_F_m (L := [129, 131, 133, 55088, 56088, 63088, 71088, 74088]) hF18 rfl)) (sg_F_m (L := [129, 131, 133, 55088, 56088, 63088, 71088, 74088]) hF22 rfl)) (sg_F_m (L := [129, 131, 133, 55088, 56088, 63088, 71088, 74088]) hF26 rfl)) (sg_F_m (L := [129, 131, 133, 55088, 56088, 63088, 71088, 74088]) hF29 rfl)) (sg_F_m (L := [129, 131, 133, 55088, 56088, 63088, 71088, 74088]) hF37 rfl)), w⟩
        ·
          have w := w.2 h33
          refine wk_b tt_278 7 (pc' := 175) (ls' := [(0, .inr (.inr (.ref 88))), (1, .inl (a1)), (2, .inl (((sg_g σ 88 62) - 1)))]) (st' := [.inl (((sg_g σ27 88 62) - 1)), .inr (.inr (.ref 131)), .inl (((sg_g σ27 88 62) - 1)), .inr (.inr (.ref 131))]) (σ' := σ27) rfl ?_
          rw [show (sg_g σ27 88 62) = ((sg_g σ 88 62) - 1) from by rw [(show sg_g σ27 88 62 = ((sg_g σ 88 62) - 1) from by rw [← hs28]; exact sg_gw_e _ _ _ _ c1)]]
          obtain ⟨c38, w⟩ := w
          refine wk_ia tt_278 rfl rfl c38.1 c38.2 c31 ?_
          rw [show (sg_g σ27 131 ((((sg_g σ 88 62) - 1) - 1))) = (sg_g σ 131 ((((sg_g σ 88 62) - 1) - 1))) from by rw [sg_F_ga hF29 rfl, sg_F_ga hF26 rfl, sg_F_ga hF22 rfl, sg_F_ga hF18 rfl, sg_F_ga hF14 rfl, sg_F_ga hF8 rfl]]
          refine wk_b tt_278 3 (pc' := 181) (ls' := [(0, .inr (.inr (.ref 88))), (1, .inl (a1)), (2, .inl (((sg_g σ 88 62) - 1)))]) (st' := [.inl (((sg_g σ 88 62) - 1)), .inr (.inr (.ref 129)), .inl ((sg_g σ 131 ((((sg_g σ 88 62) - 1) - 1)))), .inl ((((sg_g σ 88 62) - 1) - 1)), .inr (.inr (.ref 131))]) (σ' := σ27) rfl ?_
          refine wk_ia tt_278 rfl rfl c2.1 c2.2 c1 ?_
          rw [show (sg_g σ27 129 (((sg_g σ 88 62) - 1))) = (sg_g σ 129 (((sg_g σ 88 62) - 1))) from by rw [sg_F_ga hF29 rfl, sg_F_ga hF26 rfl, sg_F_ga hF22 rfl, sg_F_ga hF18 rfl, sg_F_ga hF14 rfl, sg_F_ga hF8 rfl]]
          refine wk_b tt_278 1 (pc' := 183) (ls' := [(0, .inr (.inr (.ref 88))), (1, .inl (a1)), (2, .inl (((sg_g σ 88 62) - 1)))]) (st' := [.inl (((sg_g σ 131 ((((sg_g σ 88 62) - 1) - 1))) + (sg_g σ 129 (((sg_g σ 88 62) - 1))))), .inl ((((sg_g σ 88 62) - 1) - 1)), .inr (.inr (.ref 131))]) (σ' := σ27) rfl ?_
          refine wk_n ?_
          refine wk_is tt_278 rfl rfl c38.1 c38.2 c31 ?_
          generalize hs40 : (sg_w σ27 131 ((((sg_g σ 88 62) - 1) - 1)) ((sg_n ((sg_g σ 131 ((((sg_g σ 88 62) - 1) - 1))) + (sg_g σ 129 (((sg_g σ 88 62) - 1))))))) = σ39
          have w := w σ39 hs40.symm
          have hF41 : sg_F [131] σ27 σ39 := by rw [← hs40]; exact sg_F_w (sg_F_r _ _) rfl _
          refine wk_b tt_278 1 (pc' := 207) (ls' := [(0, .inr (.inr (.ref 88))), (1, .inl (a1)), (2, .inl (((sg_g σ 88 62) - 1)))]) (st' := []) (σ' := σ39) rfl ?_
          exact wk_rV tt_278 rfl rfl ⟨rfl, (sg_F_t (sg_F_t (sg_F_t (sg_F_t (sg_F_t (sg_F_t (sg_F_t (sg_F_r [129, 131, 133, 55088, 56088, 63088, 71088, 74088] σ) (sg_F_m (L := [129, 131, 133, 55088, 56088, 63088, 71088, 74088]) hF8 rfl)) (sg_F_m (L := [129, 131, 133, 55088, 56088, 63088, 71088, 74088]) hF14 rfl)) (sg_F_m (L := [129, 131, 133, 55088, 56088, 63088, 71088, 74088]) hF18 rfl)) (sg_F_m (L := [129, 131, 133, 55088, 56088, 63088, 71088, 74088]) hF22 rfl)) (sg_F_m (L := [129, 131, 133, 55088, 56088, 63088, 71088, 74088]) hF26 rfl)) (sg_F_m (L := [129, 131, 133, 55088, 56088, 63088, 71088, 74088]) hF29 rfl)) (sg_F_m (L := [129, 131, 133, 55088, 56088, 63088, 71088, 74088]) hF41 rfl)), w⟩
      ·
        have w := w.2 h30
        refine wk_b tt_278 4 (pc' := 144) (ls' := [(0, .inr (.inr (.ref 88))), (1, .inl (a1)), (2, .inl (((sg_g σ 88 62) - 1)))]) (st' := [.inl (((sg_g σ 88 62) - 1)), .inr (.inr (.ref 129)), .inr (.inr (.ref 88))]) (σ' := σ27) rfl ?_
        refine wk_ia tt_278 rfl rfl c2.1 c2.2 c1 ?_
        rw [show (sg_g σ27 129 (((sg_g σ 88 62) - 1))) = (sg_g σ 129 (((sg_g σ 88 62) - 1))) from by rw [sg_F_ga hF29 rfl, sg_F_ga hF26 rfl, sg_F_ga hF22 rfl, sg_F_ga hF18 rfl, sg_F_ga hF14 rfl, sg_F_ga hF8 rfl]]
        refine wk_b tt_278 1 (pc' := 148) (ls' := [(0, .inr (.inr (.ref 88))), (1, .inl (a1)), (2, .inl (((sg_g σ 88 62) - 1)))]) (st' := []) (σ' := (sg_w σ27 88 55 ((sg_g σ 129 (((sg_g σ 88 62) - 1)))))) rfl ?_
        generalize hs43 : (sg_w σ27 88 55 ((sg_g σ 129 (((sg_g σ 88 62) - 1))))) = σ42
        have w := w σ42 hs43.symm
        have hF44 : sg_F [56088] σ27 σ42 := by rw [← hs43]; exact sg_F_w (sg_F_r _ _) rfl _
        refine wk_b tt_278 1 (pc' := 207) (ls' := [(0, .inr (.inr (.ref 88))), (1, .inl (a1)), (2, .inl (((sg_g σ 88 62) - 1)))]) (st' := []) (σ' := σ42) rfl ?_
        exact wk_rV tt_278 rfl rfl ⟨rfl, (sg_F_t (sg_F_t (sg_F_t (sg_F_t (sg_F_t (sg_F_t (sg_F_t (sg_F_r [129, 131, 133, 55088, 56088, 63088, 71088, 74088] σ) (sg_F_m (L := [129, 131, 133, 55088, 56088, 63088, 71088, 74088]) hF8 rfl)) (sg_F_m (L := [129, 131, 133, 55088, 56088, 63088, 71088, 74088]) hF14 rfl)) (sg_F_m (L := [129, 131, 133, 55088, 56088, 63088, 71088, 74088]) hF18 rfl)) (sg_F_m (L := [129, 131, 133, 55088, 56088, 63088, 71088, 74088]) hF22 rfl)) (sg_F_m (L := [129, 131, 133, 55088, 56088, 63088, 71088, 74088]) hF26 rfl)) (sg_F_m (L := [129, 131, 133, 55088, 56088, 63088, 71088, 74088]) hF29 rfl)) (sg_F_m (L := [129, 131, 133, 55088, 56088, 63088, 71088, 74088]) hF44 rfl)), w⟩
    refine wk_if2 tt_278 (tgt := 70) rfl rfl (sg_Rg _ _ _) (by decide) (fun (h10 : (sg_g σ 93 ((sg_g σ 126 (((sg_g σ 88 62) - 1))))) = 18) => ?_) (fun (h10 : ¬ (sg_g σ 93 ((sg_g σ 126 (((sg_g σ 88 62) - 1))))) = 18) => ?_)
    ·
      have w := w.1 h10
      refine wk_b tt_278 8 (pc' := 84) (ls' := [(0, .inr (.inr (.ref 88))), (1, .inl (a1)), (2, .inl (((sg_g σ 88 62) - 1))), (3, .inl ((sg_g σ 126 (((sg_g σ 88 62) - 1)))))]) (st' := [.inl (((sg_g σ 88 62) - 1)), .inr (.inr (.ref 128)), .inr (.inr (.ref 133)), .inr (.inr (.ref 123)), .inr (.inr (.ref 88))]) (σ' := σ7) rfl ?_
      refine wk_ia tt_278 rfl rfl c2.1 c2.2 c1 ?_
      rw [show (sg_g σ7 128 (((sg_g σ 88 62) - 1))) = (sg_g σ 128 (((sg_g σ 88 62) - 1))) from by rw [sg_F_ga hF8 rfl]]
      obtain ⟨c45, w⟩ := w
      refine wk_ia tt_278 rfl rfl c45.1 c45.2 (sg_Rg _ _ _) ?_
      rw [show (sg_g σ7 133 ((sg_g σ 128 (((sg_g σ 88 62) - 1))))) = (sg_g σ 133 ((sg_g σ 128 (((sg_g σ 88 62) - 1))))) from by rw [sg_F_ga hF8 rfl]]
      obtain ⟨c46, w⟩ := w
      refine wk_ia tt_278 rfl rfl c46.1 c46.2 (sg_Rg _ _ _) ?_
      rw [show (sg_g σ7 123 ((sg_g σ 133 ((sg_g σ 128 (((sg_g σ 88 62) - 1))))))) = (sg_g σ 123 ((sg_g σ 133 ((sg_g σ 128 (((sg_g σ 88 62) - 1))))))) from by rw [sg_F_ga hF8 rfl]]
      refine wk_b tt_278 1 (pc' := 88) (ls' := [(0, .inr (.inr (.ref 88))), (1, .inl (a1)), (2, .inl (((sg_g σ 88 62) - 1))), (3, .inl ((sg_g σ 126 (((sg_g σ 88 62) - 1)))))]) (st' := [.inr (.inl ((sg_n ((sg_g σ 123 ((sg_g σ 133 ((sg_g σ 128 (((sg_g σ 88 62) - 1))))))))))), .inr (.inr (.ref 88))]) (σ' := σ7) rfl ?_
      rw [show (sg_n ((sg_g σ 123 ((sg_g σ 133 ((sg_g σ 128 (((sg_g σ 88 62) - 1))))))))) = (sg_g σ 123 ((sg_g σ 133 ((sg_g σ 128 (((sg_g σ 88 62) - 1))))))) from by rw [sg_id (sg_Rg _ _ _)]]
      refine wk_call tt_278 rfl rfl rfl rfl rfl tt_335 rfl (by decide) (w_works z σ7 ((sg_g σ 123 ((sg_g σ 133 ((sg_g σ 128 (((sg_g σ 88 62) - 1)))))))) _ (sg_Rgl2 (sg_Rg _ _ _)) w) (fun u52 σ48 hq50 => ?_)
      obtain ⟨rfl, hF49, w⟩ := hq50
      have w := w hF49
      exact wk_ls [(0, .inr (.inr (.ref 88))), (1, .inl (a1)), (2, .inl (((sg_g σ 88 62) - 1)))] rfl ⟨rfl, rfl, rfl, trivial⟩ (jn11 σ48 (sg_F_t (sg_F_r [55088, 74088] σ7) (sg_F_m (L := [55088, 74088]) hF49 rfl)) w)
    ·
      have w := w.2 h10
      refine wk_b tt_278 3 (pc' := 53) (ls' := [(0, .inr (.inr (.ref 88))), (1, .inl (a1)), (2, .inl (((sg_g σ 88 62) - 1))), (3, .inl ((sg_g σ 126 (((sg_g σ 88 62) - 1)))))]) (st' := [.inl ((sg_g σ 126 (((sg_g σ 88 62) - 1)))), .inr (.inr (.ref 93))]) (σ' := σ7) rfl ?_
      refine wk_ia tt_278 rfl rfl c3.1 c3.2 (sg_Rg _ _ _) ?_
      rw [show (sg_g σ7 93 ((sg_g σ 126 (((sg_g σ 88 62) - 1))))) = (sg_g σ 93 ((sg_g σ 126 (((sg_g σ 88 62) - 1))))) from by rw [sg_F_ga hF8 rfl]]
      refine wk_b tt_278 1 (pc' := 56) (ls' := [(0, .inr (.inr (.ref 88))), (1, .inl (a1)), (2, .inl (((sg_g σ 88 62) - 1))), (3, .inl ((sg_g σ 126 (((sg_g σ 88 62) - 1)))))]) (st' := [.inl (19), .inl ((sg_g σ 93 ((sg_g σ 126 (((sg_g σ 88 62) - 1))))))]) (σ' := σ7) rfl ?_
      refine wk_if2 tt_278 (tgt := 70) rfl rfl (sg_Rg _ _ _) (by decide) (fun (h53 : (sg_g σ 93 ((sg_g σ 126 (((sg_g σ 88 62) - 1))))) = 19) => ?_) (fun (h53 : ¬ (sg_g σ 93 ((sg_g σ 126 (((sg_g σ 88 62) - 1))))) = 19) => ?_)
      ·
        have w := w.1 h53
        refine wk_b tt_278 8 (pc' := 84) (ls' := [(0, .inr (.inr (.ref 88))), (1, .inl (a1)), (2, .inl (((sg_g σ 88 62) - 1))), (3, .inl ((sg_g σ 126 (((sg_g σ 88 62) - 1)))))]) (st' := [.inl (((sg_g σ 88 62) - 1)), .inr (.inr (.ref 128)), .inr (.inr (.ref 133)), .inr (.inr (.ref 123)), .inr (.inr (.ref 88))]) (σ' := σ7) rfl ?_
        refine wk_ia tt_278 rfl rfl c2.1 c2.2 c1 ?_
        rw [show (sg_g σ7 128 (((sg_g σ 88 62) - 1))) = (sg_g σ 128 (((sg_g σ 88 62) - 1))) from by rw [sg_F_ga hF8 rfl]]
        obtain ⟨c54, w⟩ := w
        refine wk_ia tt_278 rfl rfl c54.1 c54.2 (sg_Rg _ _ _) ?_
        rw [show (sg_g σ7 133 ((sg_g σ 128 (((sg_g σ 88 62) - 1))))) = (sg_g σ 133 ((sg_g σ 128 (((sg_g σ 88 62) - 1))))) from by rw [sg_F_ga hF8 rfl]]
        obtain ⟨c55, w⟩ := w
        refine wk_ia tt_278 rfl rfl c55.1 c55.2 (sg_Rg _ _ _) ?_
        rw [show (sg_g σ7 123 ((sg_g σ 133 ((sg_g σ 128 (((sg_g σ 88 62) - 1))))))) = (sg_g σ 123 ((sg_g σ 133 ((sg_g σ 128 (((sg_g σ 88 62) - 1))))))) from by rw [sg_F_ga hF8 rfl]]
        refine wk_b tt_278 1 (pc' := 88) (ls' := [(0, .inr (.inr (.ref 88))), (1, .inl (a1)), (2, .inl (((sg_g σ 88 62) - 1))), (3, .inl ((sg_g σ 126 (((sg_g σ 88 62) - 1)))))]) (st' := [.inr (.inl ((sg_n ((sg_g σ 123 ((sg_g σ 133 ((sg_g σ 128 (((sg_g σ 88 62) - 1))))))))))), .inr (.inr (.ref 88))]) (σ' := σ7) rfl ?_
        rw [show (sg_n ((sg_g σ 123 ((sg_g σ 133 ((sg_g σ 128 (((sg_g σ 88 62) - 1))))))))) = (sg_g σ 123 ((sg_g σ 133 ((sg_g σ 128 (((sg_g σ 88 62) - 1))))))) from by rw [sg_id (sg_Rg _ _ _)]]
        refine wk_call tt_278 rfl rfl rfl rfl rfl tt_335 rfl (by decide) (w_works z σ7 ((sg_g σ 123 ((sg_g σ 133 ((sg_g σ 128 (((sg_g σ 88 62) - 1)))))))) _ (sg_Rgl2 (sg_Rg _ _ _)) w) (fun u61 σ57 hq59 => ?_)
        obtain ⟨rfl, hF58, w⟩ := hq59
        have w := w hF58
        exact wk_ls [(0, .inr (.inr (.ref 88))), (1, .inl (a1)), (2, .inl (((sg_g σ 88 62) - 1)))] rfl ⟨rfl, rfl, rfl, trivial⟩ (jn11 σ57 (sg_F_t (sg_F_r [55088, 74088] σ7) (sg_F_m (L := [55088, 74088]) hF58 rfl)) w)
      ·
        have w := w.2 h53
        refine wk_b tt_278 3 (pc' := 64) (ls' := [(0, .inr (.inr (.ref 88))), (1, .inl (a1)), (2, .inl (((sg_g σ 88 62) - 1))), (3, .inl ((sg_g σ 126 (((sg_g σ 88 62) - 1)))))]) (st' := [.inl ((sg_g σ 126 (((sg_g σ 88 62) - 1)))), .inr (.inr (.ref 93))]) (σ' := σ7) rfl ?_
        refine wk_ia tt_278 rfl rfl c3.1 c3.2 (sg_Rg _ _ _) ?_
        rw [show (sg_g σ7 93 ((sg_g σ 126 (((sg_g σ 88 62) - 1))))) = (sg_g σ 93 ((sg_g σ 126 (((sg_g σ 88 62) - 1))))) from by rw [sg_F_ga hF8 rfl]]
        refine wk_b tt_278 1 (pc' := 67) (ls' := [(0, .inr (.inr (.ref 88))), (1, .inl (a1)), (2, .inl (((sg_g σ 88 62) - 1))), (3, .inl ((sg_g σ 126 (((sg_g σ 88 62) - 1)))))]) (st' := [.inl (20), .inl ((sg_g σ 93 ((sg_g σ 126 (((sg_g σ 88 62) - 1))))))]) (σ' := σ7) rfl ?_
        refine wk_if2 tt_278 (tgt := 91) rfl rfl (sg_Rg _ _ _) (by decide) (fun (h62 : ¬ (sg_g σ 93 ((sg_g σ 126 (((sg_g σ 88 62) - 1))))) = 20) => ?_) (fun (h62 : (sg_g σ 93 ((sg_g σ 126 (((sg_g σ 88 62) - 1))))) = 20) => ?_)
        ·
          have w := w.1 h62
          exact wk_ls [(0, .inr (.inr (.ref 88))), (1, .inl (a1)), (2, .inl (((sg_g σ 88 62) - 1)))] rfl ⟨rfl, rfl, rfl, trivial⟩ (jn11 σ7 (sg_F_r [55088, 74088] σ7) w)
        ·
          have w := w.2 h62
          refine wk_b tt_278 8 (pc' := 84) (ls' := [(0, .inr (.inr (.ref 88))), (1, .inl (a1)), (2, .inl (((sg_g σ 88 62) - 1))), (3, .inl ((sg_g σ 126 (((sg_g σ 88 62) - 1)))))]) (st' := [.inl (((sg_g σ 88 62) - 1)), .inr (.inr (.ref 128)), .inr (.inr (.ref 133)), .inr (.inr (.ref 123)), .inr (.inr (.ref 88))]) (σ' := σ7) rfl ?_
          refine wk_ia tt_278 rfl rfl c2.1 c2.2 c1 ?_
          rw [show (sg_g σ7 128 (((sg_g σ 88 62) - 1))) = (sg_g σ 128 (((sg_g σ 88 62) - 1))) from by rw [sg_F_ga hF8 rfl]]
          obtain ⟨c63, w⟩ := w
          refine wk_ia tt_278 rfl rfl c63.1 c63.2 (sg_Rg _ _ _) ?_
          rw [show (sg_g σ7 133 ((sg_g σ 128 (((sg_g σ 88 62) - 1))))) = (sg_g σ 133 ((sg_g σ 128 (((sg_g σ 88 62) - 1))))) from by rw [sg_F_ga hF8 rfl]]
          obtain ⟨c64, w⟩ := w
          refine wk_ia tt_278 rfl rfl c64.1 c64.2 (sg_Rg _ _ _) ?_
          rw [show (sg_g σ7 123 ((sg_g σ 133 ((sg_g σ 128 (((sg_g σ 88 62) - 1))))))) = (sg_g σ 123 ((sg_g σ 133 ((sg_g σ 128 (((sg_g σ 88 62) - 1))))))) from by rw [sg_F_ga hF8 rfl]]
          refine wk_b tt_278 1 (pc' := 88) (ls' := [(0, .inr (.inr (.ref 88))), (1, .inl (a1)), (2, .inl (((sg_g σ 88 62) - 1))), (3, .inl ((sg_g σ 126 (((sg_g σ 88 62) - 1)))))]) (st' := [.inr (.inl ((sg_n ((sg_g σ 123 ((sg_g σ 133 ((sg_g σ 128 (((sg_g σ 88 62) - 1))))))))))), .inr (.inr (.ref 88))]) (σ' := σ7) rfl ?_
          rw [show (sg_n ((sg_g σ 123 ((sg_g σ 133 ((sg_g σ 128 (((sg_g σ 88 62) - 1))))))))) = (sg_g σ 123 ((sg_g σ 133 ((sg_g σ 128 (((sg_g σ 88 62) - 1))))))) from by rw [sg_id (sg_Rg _ _ _)]]
          refine wk_call tt_278 rfl rfl rfl rfl rfl tt_335 rfl (by decide) (w_works z σ7 ((sg_g σ 123 ((sg_g σ 133 ((sg_g σ 128 (((sg_g σ 88 62) - 1)))))))) _ (sg_Rgl2 (sg_Rg _ _ _)) w) (fun u70 σ66 hq68 => ?_)
          obtain ⟨rfl, hF67, w⟩ := hq68
          have w := w hF67
          exact wk_ls [(0, .inr (.inr (.ref 88))), (1, .inl (a1)), (2, .inl (((sg_g σ 88 62) - 1)))] rfl ⟨rfl, rfl, rfl, trivial⟩ (jn11 σ66 (sg_F_t (sg_F_r [55088, 74088] σ7) (sg_F_m (L := [55088, 74088]) hF67 rfl)) w)
  refine wk_if tt_278 (tgt := 37) rfl rfl (sg_Rz (vz_tellsCount ..)) (fun (h4 : (v_tellsCount ((sg_g σ 93 ((sg_g σ 126 (((sg_g σ 88 62) - 1))))))) = 0) => ?_) (fun (h4 : ¬ (v_tellsCount ((sg_g σ 93 ((sg_g σ 126 (((sg_g σ 88 62) - 1))))))) = 0) => ?_)
  ·
    have w := w.1 h4
    exact wk_ls [(0, .inr (.inr (.ref 88))), (1, .inl (a1)), (2, .inl (((sg_g σ 88 62) - 1))), (3, .inl ((sg_g σ 126 (((sg_g σ 88 62) - 1)))))] rfl ⟨rfl, rfl, rfl, rfl, trivial⟩ (jn5 σ (sg_F_r [55088, 74088] σ) w)
  ·
    have w := w.2 h4
    refine wk_b tt_278 4 (pc' := 33) (ls' := [(3, .inl ((sg_g σ 126 (((sg_g σ 88 62) - 1))))), (2, .inl (((sg_g σ 88 62) - 1))), (0, .inr (.inr (.ref 88))), (1, .inl (a1))]) (st' := [.inl (a1), .inr (.inr (.ref 124)), .inr (.inr (.ref 88))]) (σ' := σ) rfl ?_
    obtain ⟨c71, w⟩ := w
    refine wk_la tt_278 rfl rfl c71.1 c71.2 ra1 ?_
    refine wk_call tt_278 rfl rfl rfl rfl rfl tt_335 rfl (by decide) (w_works z σ ((sg_gl σ 124 (a1))) _ (sg_Rgl _ _ _) w) (fun u77 σ73 hq75 => ?_)
    obtain ⟨rfl, hF74, w⟩ := hq75
    have w := w hF74
    exact wk_ls [(0, .inr (.inr (.ref 88))), (1, .inl (a1)), (2, .inl (((sg_g σ 88 62) - 1))), (3, .inl ((sg_g σ 126 (((sg_g σ 88 62) - 1)))))] rfl ⟨rfl, rfl, rfl, rfl, trivial⟩ (jn5 σ73 (sg_F_t (sg_F_r [55088, 74088] σ) (sg_F_m (L := [55088, 74088]) hF74 rfl)) w)
