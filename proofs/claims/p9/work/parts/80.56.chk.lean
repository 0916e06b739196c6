/-! What the methods of Checker ask for (7). -/
-- NestedVectors$Checker.check
def V_kCheck (σ : sg_S) (a1 : Int) (Q : Int → sg_S → Prop) : Prop := ∀ σ1, σ1 = (sg_w σ 28 6 (0)) → ∀ σ4, σ4 = (sg_w σ1 38 10 (0)) → ∀ σ7, σ7 = (sg_w σ4 38 13 (0)) → ∀ σ10, σ10 = (sg_w σ7 38 12 ((-1))) → (∃ (I16 : Nat → Int → sg_S → Prop) (X18 : sg_S → Prop), (∃ n, I16 n (0) σ10) ∧ (∀ (n26 : Nat) (v13 : Int) (σ14 : sg_S), sg_R v13 → sg_F [6, 16, 24, 29, 30, 31, 32, 33, 34, 39, 40, 41, 42, 43, 44, 7028, 10038, 11038, 12038, 13038, 14038] σ10 σ14 → I16 n26 v13 σ14 → (((sg_g σ 19 8) ≤ v13 → X18 σ14) ∧ (v13 < (sg_g σ 19 8) → ((12 ≤ v13 → X18 σ14) ∧ (v13 < 12 → ((¬ (sg_g σ14 38 13) = 0 → X18 σ14) ∧ ((sg_g σ14 38 13) = 0 → V_kDefinition σ14 (v13) (fun σ45 => sg_F [6, 16, 24, 29, 30, 31, 32, 33, 34, 39, 40, 41, 42, 43, 44, 7028, 10038, 11038, 12038, 13038, 14038] σ14 σ45 → sg_R (v13 + 1) ∧ (∃ m, m < n26 ∧ I16 m ((v13 + 1)) σ45))))))))) ∧ (∀ (σ14 : sg_S), sg_F [6, 16, 24, 29, 30, 31, 32, 33, 34, 39, 40, 41, 42, 43, 44, 7028, 10038, 11038, 12038, 13038, 14038] σ10 σ14 → X18 σ14 → ((¬ (sg_g σ14 38 13) = 0 → Q ((sg_g σ14 38 12)) σ14) ∧ ((sg_g σ14 38 13) = 0 → ∀ σ29, σ29 = (sg_w σ14 38 9 (0)) → ∀ σ32, σ32 = (sg_w σ29 38 11 ((sg_g σ 19 8))) → V_kWalk σ32 (12) (a1) (fun σ36 => sg_F [6, 16, 29, 30, 31, 32, 33, 34, 39, 40, 41, 42, 43, 44, 7028, 10038, 11038, 13038, 14038] σ32 σ36 → Q ((sg_g σ36 38 12)) σ36)))))
set_option maxHeartbeats 4000000 in
set_option maxRecDepth 8000 in
theorem w_kCheck (z : Value) (σ : sg_S) (a1 : Int) (Q : Int → sg_S → Prop) (ra1 : sg_R a1) (w : V_kCheck σ a1 Q) : wx z 6 29 0 [(0, .inr (.inr (.ref 38))), (1, .inl (a1))] [] σ (fun v σ' => ∃ q, v = some (.inl q) ∧ sg_R q ∧ sg_F [6, 16, 24, 29, 30, 31, 32, 33, 34, 39, 40, 41, 42, 43, 44, 7028, 10038, 11038, 12038, 13038, 14038] σ σ' ∧ Q q σ') := by
  unfold V_kCheck at w
  refine wk_b tt_29 4 (pc' := 8) (ls' := [(0, .inr (.inr (.ref 38))), (1, .inl (a1))]) (st' := []) (σ' := (sg_w σ 28 6 (0))) rfl ?_
  generalize hs2 : (sg_w σ 28 6 (0)) = σ1
  have w := w σ1 hs2.symm
  have hF3 : sg_F [7028] σ σ1 := by rw [← hs2]; exact sg_F_w (sg_F_r _ _) rfl _
  refine wk_b tt_29 3 (pc' := 13) (ls' := [(0, .inr (.inr (.ref 38))), (1, .inl (a1))]) (st' := []) (σ' := (sg_w σ1 38 10 (0))) rfl ?_
  generalize hs5 : (sg_w σ1 38 10 (0)) = σ4
  have w := w σ4 hs5.symm
  have hF6 : sg_F [11038] σ1 σ4 := by rw [← hs5]; exact sg_F_w (sg_F_r _ _) rfl _
  refine wk_b tt_29 3 (pc' := 18) (ls' := [(0, .inr (.inr (.ref 38))), (1, .inl (a1))]) (st' := []) (σ' := (sg_w σ4 38 13 (0))) rfl ?_
  generalize hs8 : (sg_w σ4 38 13 (0)) = σ7
  have w := w σ7 hs8.symm
  have hF9 : sg_F [14038] σ4 σ7 := by rw [← hs8]; exact sg_F_w (sg_F_r _ _) rfl _
  refine wk_b tt_29 3 (pc' := 23) (ls' := [(0, .inr (.inr (.ref 38))), (1, .inl (a1))]) (st' := []) (σ' := (sg_w σ7 38 12 ((-1)))) rfl ?_
  generalize hs11 : (sg_w σ7 38 12 ((-1))) = σ10
  have w := w σ10 hs11.symm
  have hF12 : sg_F [13038] σ7 σ10 := by rw [← hs11]; exact sg_F_w (sg_F_r _ _) rfl _
  refine wk_b tt_29 2 (pc' := 25) (ls' := [(2, .inl (0)), (0, .inr (.inr (.ref 38))), (1, .inl (a1))]) (st' := []) (σ' := σ10) rfl ?_
  obtain ⟨I16, X18, ⟨μ17, w23⟩, w24, w25⟩ := w
  have ex27 : ∀ (σ14 : sg_S), sg_F [6, 16, 24, 29, 30, 31, 32, 33, 34, 39, 40, 41, 42, 43, 44, 7028, 10038, 11038, 12038, 13038, 14038] σ10 σ14 → X18 σ14 → wx z 6 29 60 [(0, .inr (.inr (.ref 38))), (1, .inl (a1))] [] σ14 (fun v σ' => ∃ q, v = some (.inl q) ∧ sg_R q ∧ sg_F [6, 16, 24, 29, 30, 31, 32, 33, 34, 39, 40, 41, 42, 43, 44, 7028, 10038, 11038, 12038, 13038, 14038] σ σ' ∧ Q q σ') := by
    intro σ14 hF15 w
    have w := w25 σ14 hF15 w
    refine wk_b tt_29 2 (pc' := 64) (ls' := [(0, .inr (.inr (.ref 38))), (1, .inl (a1))]) (st' := [.inl ((sg_g σ14 38 13))]) (σ' := σ14) rfl ?_
    refine wk_if tt_29 (tgt := 90) rfl rfl (sg_Rg _ _ _) (fun (h28 : ¬ (sg_g σ14 38 13) = 0) => ?_) (fun (h28 : (sg_g σ14 38 13) = 0) => ?_)
    ·
      have w := w.1 h28
      refine wk_b tt_29 2 (pc' := 94) (ls' := [(0, .inr (.inr (.ref 38))), (1, .inl (a1))]) (st' := [.inl ((sg_g σ14 38 12))]) (σ' := σ14) rfl ?_
      exact wk_rI tt_29 rfl rfl ⟨_, rfl, (sg_Rg _ _ _), (sg_F_t (sg_F_t (sg_F_t (sg_F_t (sg_F_t (sg_F_r [6, 16, 24, 29, 30, 31, 32, 33, 34, 39, 40, 41, 42, 43, 44, 7028, 10038, 11038, 12038, 13038, 14038] σ) (sg_F_m (L := [6, 16, 24, 29, 30, 31, 32, 33, 34, 39, 40, 41, 42, 43, 44, 7028, 10038, 11038, 12038, 13038, 14038]) hF3 rfl)) (sg_F_m (L := [6, 16, 24, 29, 30, 31, 32, 33, 34, 39, 40, 41, 42, 43, 44, 7028, 10038, 11038, 12038, 13038, 14038]) hF6 rfl)) (sg_F_m (L := [6, 16, 24, 29, 30, 31, 32, 33, 34, 39, 40, 41, 42, 43, 44, 7028, 10038, 11038, 12038, 13038, 14038]) hF9 rfl)) (sg_F_m (L := [6, 16, 24, 29, 30, 31, 32, 33, 34, 39, 40, 41, 42, 43, 44, 7028, 10038, 11038, 12038, 13038, 14038]) hF12 rfl)) (sg_F_m (L := [6, 16, 24, 29, 30, 31, 32, 33, 34, 39, 40, 41, 42, 43, 44, 7028, 10038, 11038, 12038, 13038, 14038]) hF15 rfl)), w⟩
    ·
      have w := w.2 h28
      refine wk_b tt_29 3 (pc' := 72) (ls' := [(0, .inr (.inr (.ref 38))), (1, .inl (a1))]) (st' := []) (σ' := (sg_w σ14 38 9 (0))) rfl ?_
      generalize hs30 : (sg_w σ14 38 9 (0)) = σ29
      have w := w σ29 hs30.symm
      have hF31 : sg_F [10038] σ14 σ29 := by rw [← hs30]; exact sg_F_w (sg_F_r _ _) rfl _
      refine wk_b tt_29 5 (pc' := 83) (ls' := [(0, .inr (.inr (.ref 38))), (1, .inl (a1))]) (st' := []) (σ' := (sg_w σ29 38 11 ((sg_g σ29 19 8)))) rfl ?_
      rw [show (sg_g σ29 19 8) = (sg_g σ 19 8) from by rw [sg_F_ga hF31 rfl, sg_F_ga hF15 rfl, sg_F_ga hF12 rfl, sg_F_ga hF9 rfl, sg_F_ga hF6 rfl, sg_F_ga hF3 rfl]]
      generalize hs33 : (sg_w σ29 38 11 ((sg_g σ 19 8))) = σ32
      have w := w σ32 hs33.symm
      have hF34 : sg_F [12038] σ29 σ32 := by rw [← hs33]; exact sg_F_w (sg_F_r _ _) rfl _
      refine wk_b tt_29 3 (pc' := 87) (ls' := [(0, .inr (.inr (.ref 38))), (1, .inl (a1))]) (st' := [.inl (a1), .inl (12), .inr (.inr (.ref 38))]) (σ' := σ32) rfl ?_
      refine wk_call tt_29 rfl rfl rfl rfl rfl tt_44 rfl (by decide) (w_kWalk z σ32 (12) (a1) _ (by decide) ra1 w) (fun u40 σ36 hq38 => ?_)
      obtain ⟨rfl, hF37, w⟩ := hq38
      have w := w hF37
      refine wk_b tt_29 2 (pc' := 94) (ls' := [(0, .inr (.inr (.ref 38))), (1, .inl (a1))]) (st' := [.inl ((sg_g σ36 38 12))]) (σ' := σ36) rfl ?_
      exact wk_rI tt_29 rfl rfl ⟨_, rfl, (sg_Rg _ _ _), (sg_F_t (sg_F_t (sg_F_t (sg_F_t (sg_F_t (sg_F_t (sg_F_t (sg_F_t (sg_F_r [6, 16, 24, 29, 30, 31, 32, 33, 34, 39, 40, 41, 42, 43, 44, 7028, 10038, 11038, 12038, 13038, 14038] σ) (sg_F_m (L := [6, 16, 24, 29, 30, 31, 32, 33, 34, 39, 40, 41, 42, 43, 44, 7028, 10038, 11038, 12038, 13038, 14038]) hF3 rfl)) (sg_F_m (L := [6, 16, 24, 29, 30, 31, 32, 33, 34, 39, 40, 41, 42, 43, 44, 7028, 10038, 11038, 12038, 13038, 14038]) hF6 rfl)) (sg_F_m (L := [6, 16, 24, 29, 30, 31, 32, 33, 34, 39, 40, 41, 42, 43, 44, 7028, 10038, 11038, 12038, 13038, 14038]) hF9 rfl)) (sg_F_m (L := [6, 16, 24, 29, 30, 31, 32, 33, 34, 39, 40, 41, 42, 43, 44, 7028, 10038, 11038, 12038, 13038, 14038]) hF12 rfl)) (sg_F_m (L := [6, 16, 24, 29, 30, 31, 32, 33, 34, 39, 40, 41, 42, 43, 44, 7028, 10038, 11038, 12038, 13038, 14038]) hF15 rfl)) (sg_F_m (L := [6, 16, 24, 29, 30, 31, 32, 33, 34, 39, 40, 41, 42, 43, 44, 7028, 10038, 11038, 12038, 13038, 14038]) hF31 rfl)) (sg_F_m (L := [6, 16, 24, 29, 30, 31, 32, 33, 34, 39, 40, 41, 42, 43, 44, 7028, 10038, 11038, 12038, 13038, 14038]) hF34 rfl)) (sg_F_m (L := [6, 16, 24, 29, 30, 31, 32, 33, 34, 39, 40, 41, 42, 43, 44, 7028, 10038, 11038, 12038, 13038, 14038]) hF37 rfl)), w⟩
  have lp22 : ∀ (n26 : Nat) (v13 : Int) (σ14 : sg_S), sg_R v13 → sg_F [6, 16, 24, 29, 30, 31, 32, 33, 34, 39, 40, 41, 42, 43, 44, 7028, 10038, 11038, 12038, 13038, 14038] σ10 σ14 → I16 n26 v13 σ14 → wx z 6 29 25 [(0, .inr (.inr (.ref 38))), (1, .inl (a1)), (2, .inl (v13))] [] σ14 (fun v σ' => ∃ q, v = some (.inl q) ∧ sg_R q ∧ sg_F [6, 16, 24, 29, 30, 31, 32, 33, 34, 39, 40, 41, 42, 43, 44, 7028, 10038, 11038, 12038, 13038, 14038] σ σ' ∧ Q q σ') := by
    intro n26
    induction n26 using Nat.strongRecOn with
    | _ n26 ih20 =>
      intro v13 σ14 r19 hF15 w
      have w := w24 n26 v13 σ14 r19 hF15 w
      refine wk_b tt_29 4 (pc' := 33) (ls' := [(0, .inr (.inr (.ref 38))), (1, .inl (a1)), (2, .inl (v13))]) (st' := [.inl ((sg_g σ14 19 8)), .inl (v13)]) (σ' := σ14) rfl ?_
      rw [show (sg_g σ14 19 8) = (sg_g σ 19 8) from by rw [sg_F_ga hF15 rfl, sg_F_ga hF12 rfl, sg_F_ga hF9 rfl, sg_F_ga hF6 rfl, sg_F_ga hF3 rfl]]
      refine wk_if2 tt_29 (tgt := 60) rfl rfl r19 (sg_Rg _ _ _) (fun (h41 : (sg_g σ 19 8) ≤ v13) => ?_) (fun (h41 : v13 < (sg_g σ 19 8)) => ?_)
      ·
        have w := w.1 h41
        exact wk_ls [(0, .inr (.inr (.ref 38))), (1, .inl (a1))] rfl ⟨rfl, rfl, trivial⟩ (ex27  σ14  (sg_F_t (sg_F_r [6, 16, 24, 29, 30, 31, 32, 33, 34, 39, 40, 41, 42, 43, 44, 7028, 10038, 11038, 12038, 13038, 14038] σ10) (sg_F_m (L := [6, 16, 24, 29, 30, 31, 32, 33, 34, 39, 40, 41, 42, 43, 44, 7028, 10038, 11038, 12038, 13038, 14038]) hF15 rfl)) w)
      ·
        have w := w.2 h41
        refine wk_b tt_29 2 (pc' := 39) (ls' := [(0, .inr (.inr (.ref 38))), (1, .inl (a1)), (2, .inl (v13))]) (st' := [.inl (12), .inl (v13)]) (σ' := σ14) rfl ?_
        refine wk_if2 tt_29 (tgt := 60) rfl rfl r19 (by decide) (fun (h42 : 12 ≤ v13) => ?_) (fun (h42 : v13 < 12) => ?_)
        ·
          have w := w.1 h42
          exact wk_ls [(0, .inr (.inr (.ref 38))), (1, .inl (a1))] rfl ⟨rfl, rfl, trivial⟩ (ex27  σ14  (sg_F_t (sg_F_r [6, 16, 24, 29, 30, 31, 32, 33, 34, 39, 40, 41, 42, 43, 44, 7028, 10038, 11038, 12038, 13038, 14038] σ10) (sg_F_m (L := [6, 16, 24, 29, 30, 31, 32, 33, 34, 39, 40, 41, 42, 43, 44, 7028, 10038, 11038, 12038, 13038, 14038]) hF15 rfl)) w)
        ·
          have w := w.2 h42
          refine wk_b tt_29 2 (pc' := 46) (ls' := [(0, .inr (.inr (.ref 38))), (1, .inl (a1)), (2, .inl (v13))]) (st' := [.inl ((sg_g σ14 38 13))]) (σ' := σ14) rfl ?_
          refine wk_if tt_29 (tgt := 60) rfl rfl (sg_Rg _ _ _) (fun (h43 : ¬ (sg_g σ14 38 13) = 0) => ?_) (fun (h43 : (sg_g σ14 38 13) = 0) => ?_)
          ·
            have w := w.1 h43
            exact wk_ls [(0, .inr (.inr (.ref 38))), (1, .inl (a1))] rfl ⟨rfl, rfl, trivial⟩ (ex27  σ14  (sg_F_t (sg_F_r [6, 16, 24, 29, 30, 31, 32, 33, 34, 39, 40, 41, 42, 43, 44, 7028, 10038, 11038, 12038, 13038, 14038] σ10) (sg_F_m (L := [6, 16, 24, 29, 30, 31, 32, 33, 34, 39, 40, 41, 42, 43, 44, 7028, 10038, 11038, 12038, 13038, 14038]) hF15 rfl)) w)
          ·
            have w := w.2 h43
            refine wk_b tt_29 2 (pc' := 51) (ls' := [(0, .inr (.inr (.ref 38))), (1, .inl (a1)), (2, .inl (v13))]) (st' := [.inl (v13), .inr (.inr (.ref 38))]) (σ' := σ14) rfl ?_
            refine wk_call tt_29 rfl rfl rfl rfl rfl tt_31 rfl (by decide) (w_kDefinition z σ14 (v13) _ r19 w) (fun u49 σ45 hq47 => ?_)
            obtain ⟨rfl, hF46, w⟩ := hq47
            have w := w hF46
            obtain ⟨c50, w⟩ := w
            refine wk_b tt_29 2 (pc' := 25) (ls' := [(2, .inl ((v13 + 1))), (0, .inr (.inr (.ref 38))), (1, .inl (a1))]) (st' := []) (σ' := σ45) rfl ?_
            obtain ⟨m51, hm51, w⟩ := w
            exact wk_ls [(0, .inr (.inr (.ref 38))), (1, .inl (a1)), (2, .inl ((v13 + 1)))] rfl ⟨rfl, rfl, rfl, trivial⟩ (ih20 m51 hm51 ((v13 + 1)) σ45 c50 (sg_F_t (sg_F_t (sg_F_r [6, 16, 24, 29, 30, 31, 32, 33, 34, 39, 40, 41, 42, 43, 44, 7028, 10038, 11038, 12038, 13038, 14038] σ10) (sg_F_m (L := [6, 16, 24, 29, 30, 31, 32, 33, 34, 39, 40, 41, 42, 43, 44, 7028, 10038, 11038, 12038, 13038, 14038]) hF15 rfl)) (sg_F_m (L := [6, 16, 24, 29, 30, 31, 32, 33, 34, 39, 40, 41, 42, 43, 44, 7028, 10038, 11038, 12038, 13038, 14038]) hF46 rfl)) w)
  exact wk_ls [(0, .inr (.inr (.ref 38))), (1, .inl (a1)), (2, .inl (0))] rfl ⟨rfl, rfl, rfl, trivial⟩ (lp22 μ17 (0) σ10 (by decide) (sg_F_r _ _) w23)
